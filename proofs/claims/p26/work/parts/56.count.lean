/-! ===== count: both ===== -/
def frN (M : Ms) : Nat := (List.range (M.1 7).toNat).countP (fun c => decide (M.2.2.1 c 0 = -1005))
noncomputable def zCnt (Z : Zst) (y : Int) : Int := if y = 0 then Z.1.1 0 else if y = 1 then Z.1.1 1 else if y = 2 then (Z.1.2.1.length : Int) else if y = 3 then Z.1.1 6 else if y = 4 then ((Z.1.2.1.countP (fun b => decide (b 4 = -1005)) : Nat) : Int) else if y = 5 then (frN Z.1 : Int) else if y = 6 then Z.1.1 8 else if y = 7 then Z.1.1 9 else if y = 8 then Z.1.1 10 else if y = 9 then Z.1.1 11 else if y = 10 then Z.1.1 12 else if y = 11 then Z.1.1 13 else if y = 12 then Z.1.1 7 else if y = 13 then Z.1.1 3 else if y = 14 then Z.1.1 4 else if y = 15 then Z.1.1 2 else if y = 16 then (Z.2.2.1.length : Int) else if y = 17 then (Z.2.2.2.2 : Int) else -1002
theorem zCnt_d {Z : Zst} {y : Int} (h0 : ¬ y = 0) (h1 : ¬ y = 1) (h2 : ¬ y = 2) (h3 : ¬ y = 3) (h4 : ¬ y = 4) (h5 : ¬ y = 5) (h6 : ¬ y = 6) (h7 : ¬ y = 7) (h8 : ¬ y = 8) (h9 : ¬ y = 9) (h10 : ¬ y = 10) (h11 : ¬ y = 11) (h12 : ¬ y = 12) (h13 : ¬ y = 13) (h14 : ¬ y = 14) (h15 : ¬ y = 15) (h16 : ¬ y = 16) (h17 : ¬ y = 17) : zCnt Z y = -1002 := by
  unfold zCnt
  rw [if_neg h0, if_neg h1, if_neg h2, if_neg h3, if_neg h4, if_neg h5, if_neg h6, if_neg h7, if_neg h8, if_neg h9, if_neg h10, if_neg h11, if_neg h12, if_neg h13, if_neg h14, if_neg h15, if_neg h16, if_neg h17]
theorem zCnt_0 {Z : Zst} : zCnt Z 0 = Z.1.1 0 := rfl
theorem zCnt_1 {Z : Zst} : zCnt Z 1 = Z.1.1 1 := rfl
theorem zCnt_2 {Z : Zst} : zCnt Z 2 = (Z.1.2.1.length : Int) := rfl
theorem zCnt_3 {Z : Zst} : zCnt Z 3 = Z.1.1 6 := rfl
theorem zCnt_4 {Z : Zst} : zCnt Z 4 = ((Z.1.2.1.countP (fun b => decide (b 4 = -1005)) : Nat) : Int) := rfl
theorem zCnt_5 {Z : Zst} : zCnt Z 5 = (frN Z.1 : Int) := rfl
theorem zCnt_6 {Z : Zst} : zCnt Z 6 = Z.1.1 8 := rfl
theorem zCnt_7 {Z : Zst} : zCnt Z 7 = Z.1.1 9 := rfl
theorem zCnt_8 {Z : Zst} : zCnt Z 8 = Z.1.1 10 := rfl
theorem zCnt_9 {Z : Zst} : zCnt Z 9 = Z.1.1 11 := rfl
theorem zCnt_10 {Z : Zst} : zCnt Z 10 = Z.1.1 12 := rfl
theorem zCnt_11 {Z : Zst} : zCnt Z 11 = Z.1.1 13 := rfl
theorem zCnt_12 {Z : Zst} : zCnt Z 12 = Z.1.1 7 := rfl
theorem zCnt_13 {Z : Zst} : zCnt Z 13 = Z.1.1 3 := rfl
theorem zCnt_14 {Z : Zst} : zCnt Z 14 = Z.1.1 4 := rfl
theorem zCnt_15 {Z : Zst} : zCnt Z 15 = Z.1.1 2 := rfl
theorem zCnt_16 {Z : Zst} : zCnt Z 16 = (Z.2.2.1.length : Int) := rfl
theorem zCnt_17 {Z : Zst} : zCnt Z 17 = (Z.2.2.2.2 : Int) := rfl
theorem sp_cntC {G : Mm} {B : Nat} {Z : Zst} {T K y : Int} {Q : dp_Ps} (h : SysC G B Z) (hz : ZI Z T K) (iy : inR y) (hq : Q (jI (zCnt Z y)) G) : Sp 77 2 [vR 7 B, vI (jI y)] G Q := by
  have hm := hz.1.1
  have hl := hm.2.1
  have hs := hm.1
  unfold SI at hs
  obtain ⟨v, hc, hR⟩ := h.2.2.1.get
  have e0 : ∀ k, k < 8 → k ≠ 5 → G.1 (B + 1) k = jI (Z.1.1 k) := fun k h1 h2 => by rw [hc.f, hR.1.2.1 k h1 h2]
  have e5 : G.1 (B + 1) 5 = jI (Z.1.2.1.length : Int) := by rw [hc.f, hR.1.1]
  have e27 : ∀ k, k < 6 → G.1 (B + 1 + 27) k = jI (Z.1.1 (8 + k)) := fun k h1 => by rw [hc.to, hR.1.2.2.1 k h1]
  have e7 : v 0 7 = ((Z.1.1 7).toNat : Int) := by rw [hR.1.2.1 7 (by decide) (by decide)]; omega
  obtain ⟨s, -, -, -, eH, -, -⟩ := id h.2.2.2.2.2.1
  obtain ⟨-, eT, -, -⟩ := id h.2.2.2.2.2.2
  apply vcX7_count
  rw [jI_toInt iy, h.1.1, h.1.2.2.2.1, h.1.2.2.2.2, hc.r10, eH, eT, e5, e0 0 (by decide) (by decide), e0 1 (by decide) (by decide), e0 2 (by decide) (by decide), e0 3 (by decide) (by decide), e0 4 (by decide) (by decide), e0 6 (by decide) (by decide), e0 7 (by decide) (by decide), e27 0 (by decide), e27 1 (by decide), e27 2 (by decide), e27 3 (by decide), e27 4 (by decide), e27 5 (by decide)]
  refine ⟨fun q => ?_, fun n0 => ⟨fun q => ?_, fun n1 => ⟨fun q => ?_, fun n2 => ⟨fun q => ?_, fun n3 => ⟨fun q => ?_, fun n4 => ⟨fun q => ?_, fun n5 => ⟨fun q => ?_, fun n6 => ⟨fun q => ?_, fun n7 => ⟨fun q => ?_, fun n8 => ⟨fun q => ?_, fun n9 => ⟨fun q => ?_, fun n10 => ⟨fun q => ?_, fun n11 => ⟨fun q => ?_, fun n12 => ⟨fun q => ?_, fun n13 => ⟨fun q => ?_, fun n14 => ⟨fun q => ?_, fun n15 => ⟨fun q => ?_, fun n16 => ⟨fun q => ?_, fun n17 => ?_⟩⟩⟩⟩⟩⟩⟩⟩⟩⟩⟩⟩⟩⟩⟩⟩⟩⟩
  · rw [q, zCnt_0] at hq; exact hq
  · rw [q, zCnt_1] at hq; exact hq
  · rw [q, zCnt_2] at hq; exact hq
  · rw [q, zCnt_3] at hq; exact hq
  · rw [q, zCnt_4, ← hR.2.1.cnt] at hq; exact sp_without hc hR.1.1 hl (hR.2.1.r4 hm) hq
  · rw [q, zCnt_5] at hq
    have hcz : ∀ c, c < (Z.1.1 7).toNat → (v (23 + c) 0 = 0 ↔ Z.1.2.2.1 c 0 = -1005) := fun c hcu => cmp_z (by omega) (hR.2.2.2.1 c (by omega)) hm
    refine sp_freeCs hc e7 (by omega) (fun c hcu => ?_) ?_
    · have := cmp_le (show c < 4 by omega) (hR.2.2.2.1 c (by omega)) hm
      exact ⟨by omega, by omega⟩
    · have e : (List.range (Z.1.1 7).toNat).countP (fun c => decide (v (23 + c) 0 = 0)) = frN Z.1 := by
        unfold frN
        apply List.countP_congr
        intro c hcm
        rw [decide_eq_true_iff, decide_eq_true_iff]
        exact hcz c (List.mem_range.mp hcm)
      rw [e]; exact hq
  · rw [q, zCnt_6] at hq; exact hq
  · rw [q, zCnt_7] at hq; exact hq
  · rw [q, zCnt_8] at hq; exact hq
  · rw [q, zCnt_9] at hq; exact hq
  · rw [q, zCnt_10] at hq; exact hq
  · rw [q, zCnt_11] at hq; exact hq
  · rw [q, zCnt_12] at hq; exact hq
  · rw [q, zCnt_13] at hq; exact hq
  · rw [q, zCnt_14] at hq; exact hq
  · rw [q, zCnt_15] at hq; exact hq
  · rw [q, zCnt_16] at hq; exact hq
  · rw [q, zCnt_17] at hq; exact hq
  · rw [zCnt_d n0 n1 n2 n3 n4 n5 n6 n7 n8 n9 n10 n11 n12 n13 n14 n15 n16 n17] at hq; exact hq
