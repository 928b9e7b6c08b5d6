/-! ===== a comparer's alarms ring: the class ===== -/
theorem mR1_1 {M : Ms} {a : Ar} {k : Nat} (h : k < 8) : (mR1 M a).1 k = M.1 k := by
  show mSc M.1 (M.1 0 - a 1) (if a 2 = 0 then 0 else (M.1 0 - a 1) / a 2) k = _
  exact mSc_n (by omega) (by omega) (by omega) (by omega) (by omega)
noncomputable def mRA (M : Ms) (c : Nat) : Ms := mFr (mRg c M) c
/-- a state between two comparers' rounds -/
def MS (M : Ms) (T K : Int) : Prop := MI M T K ∧ (∀ a, a ∈ M.2.1 → a 4 ≠ -1005 → a 5 + 1 ≤ K) ∧ M.1 14 + cnc M.2.1 ≤ 80 * K
theorem MS.J {M : Ms} {T K : Int} {c : Nat} (h : MS M T K) (hc : c < 4) (hd : M.2.2.1 c 0 ≤ M.1 0) : MJ M T K c := by
  obtain ⟨⟨hs, hl, hn, hA, hC⟩, h5, h14⟩ := h
  refine ⟨hs, hl, hn, hA, fun d hd4 _ => hC d hd4, h5, h14, fun a ha h4 => ?_⟩
  have := ((hC c hc).1 ⟨a, ha, h4⟩).1 a ha h4
  omega
theorem uns_no {L : List Ar} {c : Int} (h : ∀ a, a ∈ L → a 4 ≠ c) : uns L c = L := by
  unfold uns
  exact (List.map_congr_left (fun b hb => if_neg (h b hb))).trans (List.map_id' L)
theorem MJ.fr {M : Ms} {T K : Int} {c : Nat} (h : MJ M T K c) (hno : ∀ a, a ∈ M.2.1 → a 4 ≠ c) : MS (mFr M c) T K := by
  obtain ⟨hs, hl, hn, hA, hC, h5, h14, -⟩ := h
  have e : uns M.2.1 c = M.2.1 := uns_no hno
  refine ⟨⟨hs, ?_, ?_, ?_, fun d hd => ?_⟩, ?_, ?_⟩
  · show (uns M.2.1 c).length ≤ 20; rw [e]; exact hl
  · show NI (uns M.2.1 c); rw [e]; exact hn
  · show ∀ a, a ∈ uns M.2.1 c → _; rw [e]; exact hA
  · by_cases hdc : d = c
    · subst hdc
      refine ⟨fun q => ?_, fun _ => ⟨cU_s0, cU_s1⟩⟩
      obtain ⟨x, hx, hx4⟩ := q
      have hx : x ∈ uns M.2.1 d := hx
      rw [e] at hx
      exact absurd hx4 (hno x hx)
    · refine CI_same (hC d hd hdc) (cU_n hdc) (fun x => ?_)
      show (x ∈ uns M.2.1 c ∧ _) ↔ _
      rw [e]
  · show ∀ a, a ∈ uns M.2.1 c → _; rw [e]; exact h5
  · show M.1 14 + cnc (uns M.2.1 c) ≤ _; rw [e]; exact h14
/-- the alarms that are over are still there -/
def RY (v : Nat → Nat → Int) (M : Ms) (n : Nat) : Prop :=
  (v 0 5 = (n : Int) ∧ (∀ k, k < 8 → k ≠ 5 → v 0 k = M.1 k) ∧ (∀ k, k < 6 → v 27 k = M.1 (8 + k)) ∧ v 28 1 = M.1 14) ∧ (FLo v n).Perm M.2.1 ∧ (∀ i, i < n → v (2 + i) 7 = 0 ∨ v (2 + i) 7 = 1) ∧ NA v n ∧ (∀ d, d < 4 → cmp v M.2.1 M.2.2.1 d) ∧ Rlg v M.2.2.2
theorem RX.fr {v : Nat → Nat → Int} {M : Ms} {n c : Nat} (h : RX v M n c) (hn20 : n ≤ 20) (hc : c < 4) (hno : ∀ a, a ∈ M.2.1 → a 4 ≠ c) : RY (vRel v c) (mFr M c) n := by
  obtain ⟨⟨s5, s0, s27, s28⟩, hpm, h01, hna, hcm, hlg⟩ := h
  have e : uns M.2.1 c = M.2.1 := uns_no hno
  have hr : ∀ j, j ≠ 23 + c → vRel v c j = v j := fun j hj => vRel_r hj
  refine ⟨⟨by rw [hr 0 (by omega)]; exact s5, fun k h1 h2 => by rw [hr 0 (by omega)]; exact s0 k h1 h2, fun k h1 => by rw [hr 27 (by omega)]; exact s27 k h1, by rw [hr 28 (by omega)]; exact s28⟩, ?_, fun i hi => by rw [hr _ (by omega)]; exact h01 i hi, fun x y hx hy he => ?_, fun d hd => ?_, hlg.eq (hr 28 (by omega)) (hr 29 (by omega))⟩
  · show (FLo _ n).Perm (uns M.2.1 c)
    rw [e, FLo_eq]
    rw [FLo_eq] at hpm
    rw [lst_eq (n := n) (P := fun j => decide (vRel v c (2 + j) 7 = 0)) (P' := fun j => decide (v (2 + j) 7 = 0)) (f := fun j => rc7 (vRel v c (2 + j))) (f' := fun j => rc7 (v (2 + j))) (fun j hj => by rw [hr _ (by omega)]) (fun j hj _ => by rw [hr _ (by omega)])]
    exact hpm
  · rw [hr _ (by omega), hr _ (by omega)] at he
    exact hna x y hx hy he
  · by_cases hdc : d = c
    · subst hdc
      refine ⟨fun q => ?_, fun _ k hk => ?_⟩
      · obtain ⟨x, hx, hx4⟩ := q
        have hx : x ∈ uns M.2.1 d := hx
        rw [e] at hx
        exact absurd hx4 (hno x hx)
      · unfold vRel
        rcases (show k = 0 ∨ k = 1 ∨ k = 2 ∨ k = 3 by omega) with rfl | rfl | rfl | rfl
        · rw [v2_n (by omega), v2_n (by omega), v2_n (by omega), v2_s]
        · rw [v2_n (by omega), v2_n (by omega), v2_s]
        · rw [v2_n (by omega), v2_s]
        · rw [v2_s]
    · refine cmp_o (hcm d hd hdc) (hr _ (by omega)) (cU_n hdc) (fun x => ?_) ?_
      · show (x ∈ uns M.2.1 c ∧ _) ↔ _
        rw [e]
      · show (uns M.2.1 c).countP _ = _
        rw [e]
theorem RY.rem {v : Nat → Nat → Int} {M : Ms} {n p : Nat} (h : RY v M n) (hn20 : n ≤ 20) (hp : p < n) (h7 : v (2 + p) 7 = 1) : RY (vRem v n p) M (n - 1) := by
  obtain ⟨⟨s5, s0, s27, s28⟩, hpm, h01, hna, hcm, hlg⟩ := h
  have hr : ∀ j, j ≠ 0 → 2 + n ≤ j → vRem v n p j = v j := fun j h1 h2 => vRem_o (by omega) h1 h2
  refine ⟨⟨?_, fun k hk hk5 => ?_, fun k h1 => by rw [hr 27 (by omega) (by omega)]; exact s27 k h1, by rw [hr 28 (by omega) (by omega)]; exact s28⟩, ?_, fun i hi => ?_, fun x y hx hy he => ?_, fun d hd => cmp_row (hcm d hd) (hr _ (by omega) (by omega)), hlg.eq (hr 28 (by omega) (by omega)) (hr 29 (by omega) (by omega))⟩
  · show (if 5 = 5 then (n : Int) - 1 else v 0 5) = _
    rw [if_pos rfl]; omega
  · show (if k = 5 then (n : Int) - 1 else v 0 k) = _
    rw [if_neg hk5]; exact s0 k hk hk5
  · have hf := (FL_rem (w := vRem v n p) hp (fun i hi => vRem_a hi)).filter (fun a => decide (a 7 = 0))
    rw [List.filter_cons_of_neg (by rw [h7]; decide)] at hf
    exact (hf.map rc7).symm.trans hpm
  · rw [vRem_a hi]
    split
    · exact h01 i (by omega)
    · exact h01 (i + 1) (by omega)
  · rw [vRem_a hx, vRem_a hy] at he
    split at he
    · split at he
      · exact hna x y (by omega) (by omega) he
      · have := hna x (y + 1) (by omega) (by omega) he; omega
    · split at he
      · have := hna (x + 1) y (by omega) (by omega) he; omega
      · have := hna (x + 1) (y + 1) (by omega) (by omega) he; omega
theorem RY.U {v : Nat → Nat → Int} {M : Ms} {n : Nat} (h : RY v M n) (h0 : ∀ i, i < n → v (2 + i) 7 = 0) : RepU v M := by
  obtain ⟨⟨s5, s0, s27, s28⟩, hpm, h01, hna, hcm, hlg⟩ := h
  have e : FLo v n = (FL v n).map rc7 := by
    unfold FLo
    rw [List.filter_eq_self.mpr]
    intro a ha
    obtain ⟨i, hi, rfl⟩ := FL_mem.mp ha
    simp [h0 i hi]
  rw [e] at hpm
  have hl : M.2.1.length = n := by rw [← hpm.length_eq, List.length_map, FL_len]
  refine ⟨⟨by rw [hl]; exact s5, s0, s27, s28⟩, ⟨by rw [hl]; exact hpm, by rw [hl]; exact h0⟩, hcm, hlg⟩
theorem RepC.X {v : Nat → Nat → Int} {M : Ms} {c : Nat} (h : RepC v M) (hn : NI M.2.1) : RX v M M.2.1.length c := by
  obtain ⟨hsc, hpm, hsr, hcm, hlg⟩ := h
  refine ⟨hsc, ?_, fun i hi => Or.inl (hpm.2 i hi), hpm.NA hn, fun d hd _ => hcm d hd, hlg⟩
  unfold FLo
  rw [List.filter_eq_self.mpr]
  · exact hpm.1
  · intro a ha
    obtain ⟨i, hi, rfl⟩ := FL_mem.mp ha
    simp [hpm.2 i hi]
theorem sp_ringC {G : Mm} {b c : Nat} {v : Nat → Nat → Int} {M : Ms} {T K : Int} {Q : dp_Ps} (hc : CV G b v) (hR : RepC v M) (hm : MS M T K) (hc4 : c < 4) (hdue : M.2.2.1 c 0 ≤ M.1 0)
    (h : ∀ G' v', CV G' b v' → FR b 30 G G' → RepC v' (mRA M c) → MS (mRA M c) T K → (mRA M c).1 0 = M.1 0 → (mRA M c).1 7 = M.1 7 → Q (jI 0) G') : Sp 24 3 [vR 2 b, vI (jI (c : Int))] G Q := by
  generalize hn : M.2.1.length = n
  have hn20 : n ≤ 20 := by rw [← hn]; exact hm.1.2.1
  have hJ := hm.J hc4 hdue
  apply vcX2_ringComparer
  -- the removal
  have rem : ∀ m : Nat, ∀ (G1 : Mm) (v1 : Nat → Nat → Int) (M1 : Ms) (n1 : Nat) (w1 : Option Vl), m ≤ n1 → n1 ≤ 20 → CV G1 b v1 → FR b 30 G G1 → RY v1 M1 n1 → MI M1 T K → (∀ j, m ≤ j → j < n1 → v1 (2 + j) 7 = 0) → (∀ G' v', CV G' b v' → FR b 30 G G' → RepC v' M1 → Q (jI 0) G') →
      Wp 24 56 [some (vR 2 b), w1, some (vI (jI ((m : Int) - 1)))] [] G1 Q := by
    intro m
    induction m with
    | zero =>
      intro G1 v1 M1 n1 w1 hm1 hn1 hc1 hf1 hY hI h0 hQ
      apply vcX2_ringComparer_56
      refine ⟨fun _ => ?_, fun q => absurd (by rw [jI_lt (inR_s (by omega) (by omega)) (inR_s (by omega) (by omega))]; omega) q⟩
      exact sp_sortM hc1 (hY.U (fun i hi => h0 i (by omega) hi)) hI (fun G' v' k1 k2 k3 => hQ G' v' k1 (hf1.tr k2) k3)
    | succ m ih =>
      intro G1 v1 M1 n1 w1 hm1 hn1 hc1 hf1 hY hI h0 hQ
      apply vcX2_ringComparer_56
      rw [show (((m + 1 : Nat) : Int) - 1) = (m : Int) by omega]
      rw [jI_lt (inR_n (by omega)) (inR_s (by omega) (by omega))]
      refine ⟨fun q => by omega, fun _ => ⟨jI_in (by omega) (by omega) (by omega), ?_⟩⟩
      rw [hc1.r8, jI_cln (by omega), hc1.al (by omega), jI_add]
      have i7 : inR (v1 (2 + m) 7) := by rcases hY.2.2.1 m (by omega) with q | q <;> rw [q] <;> exact inR_s (by omega) (by omega)
      rw [jI_inj i7 (inR_s (by omega) (by omega)), show ((m : Int) + -1) = (m : Int) - 1 by omega]
      refine ⟨fun q => ?_, fun q => ?_⟩
      · refine ih G1 v1 M1 n1 w1 (by omega) hn1 hc1 hf1 hY hI (fun j hj hj1 => ?_) hQ
        rcases (show j = m ∨ m + 1 ≤ j by omega) with e | e
        · rw [e]; exact q
        · exact h0 j e hj1
      · have q1 : v1 (2 + m) 7 = 1 := by
          rcases hY.2.2.1 m (by omega) with q2 | q2
          · exact absurd q2 q
          · exact q2
        refine sp_remove hc1 hY.1.1 hn1 (by omega) (fun G2 k1 k2 => ?_)
        refine ih G2 _ M1 (n1 - 1) w1 (by omega) (by omega) k1 (hf1.tr k2) (hY.rem hn1 (by omega) q1) hI (fun j hj hj1 => ?_) hQ
        rw [vRem_a hj1, if_neg (by omega)]
        exact h0 (j + 1) (by omega) (by omega)
  -- all have rung
  have fin : ∀ (G1 : Mm) (v1 : Nat → Nat → Int) (M1 : Ms), CV G1 b v1 → FR b 30 G G1 → RX v1 M1 n c → MJ M1 T K c → rgd c M M1 → (∀ a, a ∈ M1.2.1 → a 4 ≠ c) → M1.1 0 = M.1 0 → M1.1 7 = M.1 7 →
      vp_in (jI (c : Int)) 4 ∧ Sp 42 1 [vR 3 (G1.2 (G1.2 b 9) (jI (c : Int)).toNatClampNeg)] G1 (fun _ G3 => Wp 24 56 [some (vR 2 b), some (vI (jI (c : Int))), some (vI (G3.1 b 5 - jI 1))] [] G3 Q) := by
    intro G1 v1 M1 hc1 hf1 hX hJ1 hrg hno e0 e7
    refine ⟨jI_in (by omega) (by omega) (by omega), ?_⟩
    rw [hc1.r9, jI_cln (by omega), hc1.rc (by omega)]
    refine sp_release hc1 hc4 (fun G2 k1 k2 k3 => ?_)
    have hY := hX.fr hn20 hc4 hno
    have hS := hJ1.fr hno
    have e5 : vRel v1 c 0 5 = (n : Int) := hY.1.1
    have k1 : CV G2 b (vRel v1 c) := k1
    rw [k1.f, e5, jI_sub]
    have eA : mRA M c = mFr M1 c := by unfold mRA; rw [mRg_eq hrg]
    refine rem n G2 (vRel v1 c) (mFr M1 c) n _ (Nat.le_refl _) hn20 k1 (hf1.tr k2) hY hS.1 (fun j h1 h2 => by omega) (fun G' v' g1 g2 g3 => h G' v' g1 g2 (by rw [eA]; exact g3) (by rw [eA]; exact hS) (by rw [eA]; exact e0) (by rw [eA]; exact e7))
  -- the ringing
  have loop : ∀ m i : Nat, ∀ (G1 : Mm) (v1 : Nat → Nat → Int) (M1 : Ms), n - i < m → i ≤ n → CV G1 b v1 → FR b 30 G G1 → RX v1 M1 n c → MJ M1 T K c → (∀ M', rgd c M1 M' → rgd c M M') → (∀ j, i ≤ j → j < n → v1 (2 + j) = v (2 + j)) → (∀ j, j < i → v1 (2 + j) 7 = 1 ∨ v1 (2 + j) 4 ≠ c) → M1.1 0 = M.1 0 → M1.1 7 = M.1 7 →
      Wp 24 2 [some (vR 2 b), some (vI (jI (c : Int))), some (vI (jI (i : Int)))] [] G1 Q := by
    intro m
    induction m with
    | zero => intro i G1 v1 M1 hm; omega
    | succ m ih =>
      intro i G1 v1 M1 hmi hin hc1 hf1 hX hJ1 hrg heq hov e0 e7
      have hmem := @RX.mem v1 M1 n c hX
      apply vcX2_ringComparer_2
      rw [hc1.f, hX.1.1, jI_le (inR_n (by omega)) (inR_n (by omega))]
      refine ⟨fun q => ?_, fun q => ⟨jI_in (by omega) (by omega) (by omega), ?_⟩⟩
      · have hno : ∀ a, a ∈ M1.2.1 → a 4 ≠ c := by
          intro a ha
          obtain ⟨j, hj, hj7, rfl⟩ := hmem.mp ha
          rw [rc7_k (by decide)]
          rcases hov j (by omega) with g | g
          · omega
          · exact g
        exact fin G1 v1 M1 hc1 hf1 hX hJ1 (hrg M1 ⟨0, rfl, hno⟩) hno e0 e7
      · have hin' : i < n := by omega
        have ei : v1 (2 + i) = v (2 + i) := heq i (Nat.le_refl _) hin'
        have h7 : v1 (2 + i) 7 = 0 := by rw [ei]; exact hR.2.1.2 i (by omega)
        have haI := AI_v (hR.2.1.AI hm.1.2.2.2.1 (i := i) (by omega))
        have hs := hJ1.1
        have hs0 := hm.1.1
        unfold SI at hs hs0
        rw [hc1.r8, jI_cln (by omega), hc1.al (by omega), ei, jI_inj ⟨by omega, by omega⟩ (inR_n (by omega)), jI_add, show ((i : Int) + 1) = ((i + 1 : Nat) : Int) by omega]
        refine ⟨fun q4 => ⟨jI_in (by omega) (by omega) (by omega), ?_⟩, fun q4 => ?_⟩
        · have haL : rc7 (v1 (2 + i)) ∈ M1.2.1 := hmem.mpr ⟨i, hin', h7, rfl⟩
          have hq4 : v1 (2 + i) 4 = c := by rw [ei]; exact q4
          have hf : fstA M1.2.1 (c : Int) (rc7 (v1 (2 + i))) := by
            refine ⟨haL, by rw [rc7_k (by decide)]; exact hq4, fun x hx hx4 => ?_⟩
            obtain ⟨j, hj, hj7, rfl⟩ := hmem.mp hx
            rw [rc7_k (by decide)] at hx4
            rcases (show j < i ∨ j = i ∨ i < j by omega) with g | g | g
            · rcases hov j g with g2 | g2
              · omega
              · exact absurd hx4 g2
            · rw [g]; exact Or.inl rfl
            · refine Or.inr (bef_rc.mpr ?_)
              rw [ei, heq j (by omega) hj]
              exact hR.2.2.1 i j g (by omega)
          have ha1 : v1 (2 + i) 1 ≤ M1.1 0 := by
            have := hJ1.2.2.2.2.2.2.2 _ haL (by rw [rc7_k (by decide)]; exact hq4)
            rw [rc7_k (by decide)] at this
            exact this
          have ev0 : v1 0 0 = M1.1 0 := hX.1.2.1 0 (by decide) (by decide)
          have ev28 : v1 28 1 = M1.1 14 := hX.1.2.2.2
          have ev27 : v1 27 2 = M1.1 10 := hX.1.2.2.1 2 (by decide)
          rw [← ei] at haI
          refine sp_ringA hc1 (by omega) ⟨by omega, by omega⟩ ⟨by omega, by omega⟩ ⟨by omega, by omega⟩ ⟨by omega, by omega⟩ ⟨by omega, by omega⟩ (fun G2 w k1 k2 k3 k4 => ?_)
          have hX2 := hX.step hJ1 hin' hn20 hq4 h7 k4
          have hJ2 := mR1_MJ hJ1 hf
          refine ih (i + 1) G2 w _ (by omega) (by omega) k1 (hf1.tr k2) hX2 hJ2 (fun M' g => hrg M' (rgd_s hf g)) (fun j g1 g2 => ?_) (fun j g => ?_) ?_ ?_
          · rw [k4.1 _ (by omega) (by omega) (by omega) (by omega)]
            exact heq j (by omega) g2
          · by_cases hji : j = i
            · subst hji
              by_cases hp : v1 (2 + j) 2 = 0
              · exact Or.inl (k4.2.2.2.2.2.1 hp).1
              · rw [k4.2.2.2.2.2.2 hp, rung_4]
                exact Or.inr (by omega)
            · rw [k4.1 _ (by omega) (by omega) (by omega) (by omega)]
              exact hov j (by omega)
          · rw [← e0]; exact mR1_1 (by decide)
          · rw [← e7]; exact mR1_1 (by decide)
        · refine ih (i + 1) G1 v1 M1 (by omega) (by omega) hc1 hf1 hX hJ1 hrg (fun j g1 g2 => heq j (by omega) g2) (fun j g => ?_) e0 e7
          by_cases hji : j = i
          · rw [hji, ei]; exact Or.inr q4
          · exact hov j (by omega)
  exact loop (n + 1) 0 G v M (by omega) (by omega) hc FR.rf (by rw [← hn]; exact hR.X hm.1.2.2.1) hJ (fun _ g => g) (fun _ _ _ => rfl) (fun j g => by omega) rfl rfl

