/-! ===== alarms ring: the class ===== -/
/-- what one ringing does to a chip's numbers -/
def RgP (v w : Nat → Nat → Int) (i : Nat) (c : Int) : Prop :=
  (∀ j, j ≠ 27 → j ≠ 28 → j ≠ 29 → j ≠ 2 + i → w j = v j) ∧ w 28 1 = v 28 1 + 1 ∧
  (w 29 (4 * (v 28 1 % 8).toNat) = v (2 + i) 0 ∧ w 29 (4 * (v 28 1 % 8).toNat + 1) = v 0 0 ∧ w 29 (4 * (v 28 1 % 8).toNat + 2) = v 0 0 - v (2 + i) 1 ∧ w 29 (4 * (v 28 1 % 8).toNat + 3) = c) ∧
  (∀ k, (k < 4 * (v 28 1 % 8).toNat ∨ 4 * (v 28 1 % 8).toNat + 4 ≤ k) → w 29 k = v 29 k) ∧
  (w 27 0 = v 27 0 + 1 ∧ w 27 1 = v 27 1 + (v 0 0 - v (2 + i) 1) ∧ w 27 2 = max (v 27 2) (v 0 0 - v (2 + i) 1) ∧ w 27 3 = v 27 3 + (if v (2 + i) 2 = 0 then 0 else (v 0 0 - v (2 + i) 1) / v (2 + i) 2) ∧ w 27 4 = v 27 4 ∧ w 27 5 = v 27 5) ∧
  (v (2 + i) 2 = 0 → w (2 + i) 7 = 1 ∧ w (2 + i) 0 = v (2 + i) 0) ∧ (¬ v (2 + i) 2 = 0 → w (2 + i) = rung (v (2 + i)) (v 0 0 - v (2 + i) 1))
theorem sp_ringA {G : Mm} {b i : Nat} {v : Nat → Nat → Int} {c : Int} {Q : dp_Ps} (hc : CV G b v) (hi : i < 20) (hs : 0 ≤ v 0 0 - v (2 + i) 1 ∧ v 0 0 - v (2 + i) 1 < 2147483648) (h1 : 0 ≤ v 28 1 ∧ v 28 1 < 2147483647) (h2 : inR (v 27 2)) (h6 : inR (v (2 + i) 6)) (hp : 0 ≤ v (2 + i) 2 ∧ v (2 + i) 2 < 2147483648)
    (h : ∀ G' w, CV G' b w → FR b 30 G G' → G'.2 = G.2 → RgP v w i c → Q (jI 0) G') : Sp 25 4 [vR 2 b, vR 0 (G.2 (b + 1) i), vI (jI c)] G Q := by
  have hra := hc.ra hi
  have is : inR (v 0 0 - v (2 + i) 1) := ⟨by omega, by omega⟩
  apply vcX2_ringAlarm
  rw [hc.r11, hc.al hi, hc.al hi, hc.f, jI_sub]
  refine sp_note hc h1 (fun G1 k1 k2 k3 => ?_)
  rw [k1.r10]
  refine sp_tnote k1 is (by rw [v2_n (by omega), v2_n (by omega), v2_n (by omega), v2_n (by omega), v2_n (by omega)]; exact h2) (fun G2 k4 k5 k6 => ?_)
  have e2 : G.2 (b + 1) i = G2.2 (b + 1) i := by rw [k6, k3]
  rw [e2]
  refine sp_anote k4 hi is (by rw [v2_n (by omega), v2_n (by omega), v2_n (by omega), v2_n (by omega), v2_n (by omega), v2_n (by omega), v2_n (by omega), v2_n (by omega)]; exact h6) (fun G3 k7 k8 k9 => ?_)
  have e3 : G2.2 (b + 1) i = G3.2 (b + 1) i := by rw [k9]
  rw [e3]
  generalize hV : (v2 (v2 (v2 (v2 (v2 (v2 (v2 (v2 (v2 (v2 (v2 v 29 (4 * (v 28 1 % 8).toNat) (v (2 + i) 0)) 29 (4 * (v 28 1 % 8).toNat + 1) (v 0 0)) 29 (4 * (v 28 1 % 8).toNat + 2) (v 0 0 - v (2 + i) 1)) 29 (4 * (v 28 1 % 8).toNat + 3) c) 28 1 (v 28 1 + 1)) 27 0 _) 27 1 _) 27 2 _) (2 + i) 5 _) (2 + i) 6 _) (2 + i) 4 (-1005)) = V at k7
  have ro : ∀ j, j ≠ 27 → j ≠ 28 → j ≠ 29 → j ≠ 2 + i → V j = v j := by
    intro j g1 g2 g3 g4
    rw [← hV, v2_r g4, v2_r g4, v2_r g4, v2_r g1, v2_r g1, v2_r g1, v2_r g2, v2_r g3, v2_r g3, v2_r g3, v2_r g3]
  have r28 : V 28 1 = v 28 1 + 1 := by
    rw [← hV, v2_n (by omega), v2_n (by omega), v2_n (by omega), v2_n (by omega), v2_n (by omega), v2_n (by omega), v2_s]
  have r29 : V 29 = v2 (v2 (v2 (v2 v 29 (4 * (v 28 1 % 8).toNat) (v (2 + i) 0)) 29 (4 * (v 28 1 % 8).toNat + 1) (v 0 0)) 29 (4 * (v 28 1 % 8).toNat + 2) (v 0 0 - v (2 + i) 1)) 29 (4 * (v 28 1 % 8).toNat + 3) c 29 := by
    rw [← hV, v2_r (by omega), v2_r (by omega), v2_r (by omega), v2_r (by omega), v2_r (by omega), v2_r (by omega), v2_r (by omega)]
  have ra : V (2 + i) = aU (aU (aU (v (2 + i)) 5 (v (2 + i) 5 + 1)) 6 (max (v (2 + i) 6) (v 0 0 - v (2 + i) 1))) 4 (-1005) := by
    rw [← hV, row_aU, row_aU, row_aU]
    simp only [v2_r (show 2 + i ≠ 27 by omega), v2_r (show 2 + i ≠ 28 by omega), v2_r (show 2 + i ≠ 29 by omega)]
  have ra1 : V (2 + i) 1 = v (2 + i) 1 := by rw [ra, aU_n (by decide), aU_n (by decide), aU_n (by decide)]
  have ra2 : V (2 + i) 2 = v (2 + i) 2 := by rw [ra, aU_n (by decide), aU_n (by decide), aU_n (by decide)]
  have r27 : V 27 0 = v 27 0 + 1 ∧ V 27 1 = v 27 1 + (v 0 0 - v (2 + i) 1) ∧ V 27 2 = max (v 27 2) (v 0 0 - v (2 + i) 1) ∧ V 27 3 = v 27 3 ∧ V 27 4 = v 27 4 ∧ V 27 5 = v 27 5 := by
    have e : V 27 = v2 (v2 (v2 v 27 0 (v 27 0 + 1)) 27 1 (v 27 1 + (v 0 0 - v (2 + i) 1))) 27 2 (max (v 27 2) (v 0 0 - v (2 + i) 1)) 27 := by
      rw [← hV, v2_r (by omega), v2_r (by omega), v2_r (by omega), row_aU, row_aU, row_aU, row_aU, row_aU, row_aU]
      simp only [v2_r (show 27 ≠ 28 by omega), v2_r (show 27 ≠ 29 by omega), v2_n (show ¬ (27 = 27 ∧ 1 = 0) by omega), v2_n (show ¬ (27 = 27 ∧ 2 = 0) by omega), v2_n (show ¬ (27 = 27 ∧ 2 = 1) by omega)]
    rw [e]
    refine ⟨?_, ?_, ?_, ?_, ?_, ?_⟩
    · rw [v2_n (by omega), v2_n (by omega), v2_s]
    · rw [v2_n (by omega), v2_s]
    · rw [v2_s]
    · rw [v2_n (by omega), v2_n (by omega), v2_n (by omega)]
    · rw [v2_n (by omega), v2_n (by omega), v2_n (by omega)]
    · rw [v2_n (by omega), v2_n (by omega), v2_n (by omega)]
  have lg : (V 29 (4 * (v 28 1 % 8).toNat) = v (2 + i) 0 ∧ V 29 (4 * (v 28 1 % 8).toNat + 1) = v 0 0 ∧ V 29 (4 * (v 28 1 % 8).toNat + 2) = v 0 0 - v (2 + i) 1 ∧ V 29 (4 * (v 28 1 % 8).toNat + 3) = c) ∧ (∀ k, (k < 4 * (v 28 1 % 8).toNat ∨ 4 * (v 28 1 % 8).toNat + 4 ≤ k) → V 29 k = v 29 k) := by
    rw [r29]
    refine ⟨⟨?_, ?_, ?_, ?_⟩, fun k hk => ?_⟩
    · rw [v2_n (by omega), v2_n (by omega), v2_n (by omega), v2_s]
    · rw [v2_n (by omega), v2_n (by omega), v2_s]
    · rw [v2_n (by omega), v2_s]
    · rw [v2_s]
    · rw [v2_n (by omega), v2_n (by omega), v2_n (by omega), v2_n (by omega)]
  have hf : FR b 30 G G3 := k2.tr (k5.tr k8)
  have hg : G3.2 = G.2 := k9.trans (k6.trans k3)
  -- the last of it: the alarm goes on
  refine sp_goOn k7 hi hs (by rw [ra2]; exact hp) (fun hpp G4 j1 j2 j3 => ?_) (fun hp0 G4 j1 j2 j3 => ?_)
  · rw [ra1, ra2] at j1
    rw [ra2] at hpp ⊢
    rintro _ rfl
    have e10 : G3.2 b 10 = b + 27 := k7.r10
    rw [e10, k7.to, r27.2.2.2.1, jI_add]
    have j4 := j1.wto 3 (v 27 3 + (v 0 0 - v (2 + i) 1) / v (2 + i) 2)
    refine h _ _ j4 (hf.tr (j2.tr (FR.wI (by omega)))) (j3.trans hg) ⟨fun j g1 g2 g3 g4 => by rw [v2_r g1, v2_r g4]; exact ro j g1 g2 g3 g4, by rw [v2_n (by omega), v2_n (by omega)]; exact r28, ?_, fun k hk => by rw [v2_n (by omega), v2_n (by omega)]; exact lg.2 k hk, ?_, fun q => by omega, fun _ => ?_⟩
    · rw [v2_r (by omega), v2_r (by omega)]; exact lg.1
    · rw [if_neg (show ¬ v (2 + i) 2 = 0 by omega), v2_s, v2_n (by omega), v2_n (by omega), v2_n (by omega), v2_n (by omega), v2_n (by omega), v2_n (by omega), v2_n (by omega), v2_n (by omega), v2_n (by omega), v2_n (by omega)]
      exact ⟨r27.1, r27.2.1, r27.2.2.1, rfl, r27.2.2.2.2⟩
    · rw [v2_r (by omega), row_aU, ra]
      rfl
  · rw [ra2] at hp0
    rintro _ rfl
    have e10 : G3.2 b 10 = b + 27 := k7.r10
    rw [e10, k7.to, r27.2.2.2.1, jI_add]
    have j4 := j1.wto 3 (v 27 3 + 0)
    refine h _ _ j4 (hf.tr (j2.tr (FR.wI (by omega)))) (j3.trans hg) ⟨fun j g1 g2 g3 g4 => by rw [v2_r g1, v2_r g4]; exact ro j g1 g2 g3 g4, by rw [v2_n (by omega), v2_n (by omega)]; exact r28, ?_, fun k hk => by rw [v2_n (by omega), v2_n (by omega)]; exact lg.2 k hk, ?_, fun _ => ?_, fun q => absurd hp0 q⟩
    · rw [v2_r (by omega), v2_r (by omega)]; exact lg.1
    · rw [if_pos hp0, v2_s, v2_n (by omega), v2_n (by omega), v2_n (by omega), v2_n (by omega), v2_n (by omega), v2_n (by omega), v2_n (by omega), v2_n (by omega), v2_n (by omega), v2_n (by omega)]
      exact ⟨r27.1, r27.2.1, r27.2.2.1, rfl, r27.2.2.2.2⟩
    · rw [v2_r (by omega), v2_s, v2_n (by omega), ra, aU_n (by decide), aU_n (by decide), aU_n (by decide)]
      exact ⟨rfl, rfl⟩
/-- the alarms that are not over -/
def FLo (v : Nat → Nat → Int) (n : Nat) : List Ar := ((FL v n).filter (fun a => decide (a 7 = 0))).map rc7
theorem FLo_eq (v : Nat → Nat → Int) (n : Nat) : FLo v n = ((List.range n).filter (fun j => decide (v (2 + j) 7 = 0))).map (fun j => rc7 (v (2 + j))) := by
  unfold FLo FL
  rw [List.filter_map, List.map_map]
  rfl
theorem lst_eq {n : Nat} {P P' : Nat → Bool} {f f' : Nat → Ar} (hP : ∀ j, j < n → P j = P' j) (hf : ∀ j, j < n → P j = true → f j = f' j) : ((List.range n).filter P).map f = ((List.range n).filter P').map f' := by
  rw [← List.filter_congr (fun j hj => hP j (List.mem_range.mp hj))]
  apply List.map_congr_left
  intro j hj
  have := List.mem_filter.mp hj
  exact hf j (List.mem_range.mp this.1) this.2
def RX (v : Nat → Nat → Int) (M : Ms) (n c : Nat) : Prop :=
  (v 0 5 = (n : Int) ∧ (∀ k, k < 8 → k ≠ 5 → v 0 k = M.1 k) ∧ (∀ k, k < 6 → v 27 k = M.1 (8 + k)) ∧ v 28 1 = M.1 14) ∧ (FLo v n).Perm M.2.1 ∧ (∀ i, i < n → v (2 + i) 7 = 0 ∨ v (2 + i) 7 = 1) ∧ NA v n ∧ (∀ d, d < 4 → d ≠ c → cmp v M.2.1 M.2.2.1 d) ∧ Rlg v M.2.2.2
theorem FLo_mem {v : Nat → Nat → Int} {n : Nat} {a : Ar} : a ∈ FLo v n ↔ ∃ j, j < n ∧ v (2 + j) 7 = 0 ∧ rc7 (v (2 + j)) = a := by
  rw [FLo_eq]
  simp only [List.mem_map, List.mem_filter, List.mem_range, decide_eq_true_eq]
  constructor
  · rintro ⟨j, ⟨h1, h2⟩, h3⟩; exact ⟨j, h1, h2, h3⟩
  · rintro ⟨j, h1, h2, h3⟩; exact ⟨j, ⟨h1, h2⟩, h3⟩
theorem RX.mem {v : Nat → Nat → Int} {M : Ms} {n c : Nat} (h : RX v M n c) {a : Ar} : a ∈ M.2.1 ↔ ∃ j, j < n ∧ v (2 + j) 7 = 0 ∧ rc7 (v (2 + j)) = a := by
  rw [← h.2.1.mem_iff]; exact FLo_mem
theorem Rlg_note {v w : Nat → Nat → Int} {g : List Ar} {e : Ar} (h : Rlg v g) (h0 : 0 ≤ v 28 1) (hl : g.length ≤ 8) (w28 : w 28 1 = v 28 1 + 1) (we : ∀ q, q < 4 → w 29 (4 * (v 28 1 % 8).toNat + q) = e q) (wo : ∀ k, (k < 4 * (v 28 1 % 8).toNat ∨ 4 * (v 28 1 % 8).toNat + 4 ≤ k) → w 29 k = v 29 k) : Rlg w ((e :: g).take 8) := by
  intro j x hj q hq
  rw [List.getElem?_take] at hj
  by_cases hj8 : j < 8
  · rw [if_pos hj8] at hj
    rw [w28]
    cases j with
    | zero =>
      have hx : e = x := Option.some.inj hj
      rw [show (v 28 1 + 1 - 1 - ((0 : Nat) : Int)) = v 28 1 by omega, ← hx]
      exact we q hq
    | succ j =>
      have hx : g[j]? = some x := hj
      rw [show (v 28 1 + 1 - 1 - ((j + 1 : Nat) : Int)) = v 28 1 - 1 - j by omega]
      rw [wo _ (by omega)]
      exact h j x hx q hq
  · rw [if_neg hj8] at hj; cases hj
theorem RX.step {v w : Nat → Nat → Int} {M : Ms} {T K : Int} {n c i : Nat} (h : RX v M n c) (hm : MJ M T K c) (hi : i < n) (hn20 : n ≤ 20) (h4 : v (2 + i) 4 = (c : Int)) (h7 : v (2 + i) 7 = 0) (hw : RgP v w i c) : RX w (mR1 M (rc7 (v (2 + i)))) n c := by
  obtain ⟨⟨s5, s0, s27, s28⟩, hpm, h01, hna, hcm, hlg⟩ := id h
  obtain ⟨wo, w28, wl, wlo, w27, wz, wp⟩ := hw
  have haL : rc7 (v (2 + i)) ∈ M.2.1 := h.mem.mpr ⟨i, hi, h7, rfl⟩
  have k0 : rc7 (v (2 + i)) 0 = v (2 + i) 0 := rc7_k (by decide)
  have k1 : rc7 (v (2 + i)) 1 = v (2 + i) 1 := rc7_k (by decide)
  have k2 : rc7 (v (2 + i)) 2 = v (2 + i) 2 := rc7_k (by decide)
  have k4 : rc7 (v (2 + i)) 4 = v (2 + i) 4 := rc7_k (by decide)
  have c0 : v 0 0 = M.1 0 := s0 0 (by decide) (by decide)
  have w0 : w 0 = v 0 := wo 0 (by omega) (by omega) (by omega) (by omega)
  have hw0 : ∀ j, j < n → w (2 + j) 0 = v (2 + j) 0 := by
    intro j hj
    by_cases hji : j = i
    · subst hji
      by_cases hp : v (2 + j) 2 = 0
      · exact (wz hp).2
      · rw [wp hp, rung_k (by decide) (by decide) (by decide) (by decide)]
    · rw [wo _ (by omega) (by omega) (by omega) (by omega)]
  have hs := hm.1
  unfold SI at hs
  refine ⟨⟨by rw [w0]; exact s5, fun k hk hk5 => ?_, fun k hk => ?_, ?_⟩, ?_, fun j hj => ?_, fun x y hx hy he => ?_, fun d hd hdc => ?_, ?_⟩
  · show _ = mSc M.1 (M.1 0 - rc7 (v (2 + i)) 1) (if rc7 (v (2 + i)) 2 = 0 then 0 else (M.1 0 - rc7 (v (2 + i)) 1) / rc7 (v (2 + i)) 2) k
    rw [w0, mSc_n (by omega) (by omega) (by omega) (by omega) (by omega)]
    exact s0 k hk hk5
  · show _ = mSc M.1 (M.1 0 - rc7 (v (2 + i)) 1) (if rc7 (v (2 + i)) 2 = 0 then 0 else (M.1 0 - rc7 (v (2 + i)) 1) / rc7 (v (2 + i)) 2) (8 + k)
    obtain ⟨g0, g1, g2, g3, g4, g5⟩ := w27
    rcases (show k = 0 ∨ k = 1 ∨ k = 2 ∨ k = 3 ∨ k = 4 ∨ k = 5 by omega) with rfl | rfl | rfl | rfl | rfl | rfl
    · rw [g0, mSc_8, s27 0 (by decide)]
    · rw [g1, mSc_9, s27 1 (by decide), c0, k1]
    · rw [g2, mSc_10, s27 2 (by decide), c0, k1]
    · rw [g3, mSc_11, s27 3 (by decide), c0, k1, k2]
    · rw [g4, mSc_n (by omega) (by omega) (by omega) (by omega) (by omega)]; exact s27 4 (by decide)
    · rw [g5, mSc_n (by omega) (by omega) (by omega) (by omega) (by omega)]; exact s27 5 (by decide)
  · show _ = mSc M.1 (M.1 0 - rc7 (v (2 + i)) 1) (if rc7 (v (2 + i)) 2 = 0 then 0 else (M.1 0 - rc7 (v (2 + i)) 1) / rc7 (v (2 + i)) 2) 14
    rw [w28, mSc_14, s28]
  · show (FLo w n).Perm (if rc7 (v (2 + i)) 2 = 0 then M.2.1.filter (fun b => decide (b 0 ≠ rc7 (v (2 + i)) 0)) else M.2.1.map (fun b => if b 0 = rc7 (v (2 + i)) 0 then rung b (M.1 0 - rc7 (v (2 + i)) 1) else b))
    rw [k0, k1, k2, ← c0]
    by_cases hp : v (2 + i) 2 = 0
    · rw [if_pos hp]
      have e : FLo w n = (FLo v n).filter (fun b => decide (b 0 ≠ v (2 + i) 0)) := by
        rw [FLo_eq, FLo_eq, List.filter_map, List.filter_filter]
        refine lst_eq (fun j hj => ?_) (fun j hj hP => ?_)
        · show decide (w (2 + j) 7 = 0) = (decide (rc7 (v (2 + j)) 0 ≠ v (2 + i) 0) && decide (v (2 + j) 7 = 0))
          rw [rc7_k (by decide)]
          by_cases hji : j = i
          · subst hji
            rw [(wz hp).1]
            simp
          · have : v (2 + j) 0 ≠ v (2 + i) 0 := fun q => hji (hna j i hj hi q)
            rw [wo _ (by omega) (by omega) (by omega) (by omega)]
            simp [this]
        · have hji : j ≠ i := by
            intro q
            rw [q, (wz hp).1] at hP
            simp at hP
          rw [wo _ (by omega) (by omega) (by omega) (by omega)]
      rw [e]
      exact hpm.filter _
    · rw [if_neg hp]
      have e : FLo w n = (FLo v n).map (fun b => if b 0 = v (2 + i) 0 then rung b (v 0 0 - v (2 + i) 1) else b) := by
        rw [FLo_eq, FLo_eq, List.map_map]
        refine lst_eq (fun j hj => ?_) (fun j hj hP => ?_)
        · by_cases hji : j = i
          · subst hji
            rw [wp hp, rung_k (by decide) (by decide) (by decide) (by decide)]
          · rw [wo _ (by omega) (by omega) (by omega) (by omega)]
        · show rc7 (w (2 + j)) = if rc7 (v (2 + j)) 0 = v (2 + i) 0 then rung (rc7 (v (2 + j))) _ else rc7 (v (2 + j))
          rw [rc7_k (k := 0) (by decide)]
          by_cases hji : j = i
          · subst hji
            rw [if_pos rfl, wp hp]
            funext k
            unfold rc7 rung aU
            by_cases hk : k < 7
            · simp only [hk, if_true, show (5 : Nat) < 7 by decide, show (6 : Nat) < 7 by decide, show (1 : Nat) < 7 by decide, show (2 : Nat) < 7 by decide]
            · simp only [hk, if_false, show k ≠ 1 by omega, show k ≠ 4 by omega, show k ≠ 6 by omega, show k ≠ 5 by omega]
          · rw [if_neg (fun q => hji (hna j i hj hi q)), wo _ (by omega) (by omega) (by omega) (by omega)]
      rw [e]
      exact hpm.map _
  · by_cases hji : j = i
    · subst hji
      by_cases hp : v (2 + j) 2 = 0
      · exact Or.inr (wz hp).1
      · rw [wp hp, rung_k (by decide) (by decide) (by decide) (by decide)]; exact h01 j hj
    · rw [wo _ (by omega) (by omega) (by omega) (by omega)]; exact h01 j hj
  · rw [hw0 x hx, hw0 y hy] at he
    exact hna x y hx hy he
  · exact cmp_o (hcm d hd hdc) (wo _ (by omega) (by omega) (by omega) (by omega)) rfl (mR1_at hm.2.2.1 haL (by omega) (by omega)) (mR1_cnt hm.2.2.1 haL (by omega) (by omega))
  · refine Rlg_note hlg (by omega) (by omega) w28 (fun q hq => ?_) wlo
    rcases (show q = 0 ∨ q = 1 ∨ q = 2 ∨ q = 3 by omega) with rfl | rfl | rfl | rfl
    · show _ = rc7 (v (2 + i)) 0
      rw [k0]; exact wl.1
    · show _ = M.1 0
      rw [← c0]; exact wl.2.1
    · show _ = M.1 0 - rc7 (v (2 + i)) 1
      rw [k1, ← c0]; exact wl.2.2.1
    · show _ = rc7 (v (2 + i)) 4
      rw [k4, h4]; exact wl.2.2.2

