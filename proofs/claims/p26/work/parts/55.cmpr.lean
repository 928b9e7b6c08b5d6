/-! ===== comparer and count: both ===== -/
/-- the number of the first of the alarms of x -/
noncomputable def fsN (L : List Ar) (x : Int) : Int := cIf (∃ a, fstA L x a) ((Classical.epsilon (fstA L x)) 0) (-1005)
theorem fsN_s {L : List Ar} {x : Int} {a : Ar} (h : fstA L x a) : fsN L x = a 0 := by
  unfold fsN
  rw [cIf_t ⟨a, h⟩, fstA_u (Classical.epsilon_spec (p := fstA L x) ⟨a, h⟩) h]
theorem fsN_n {L : List Ar} {x : Int} (h : ∀ b, b ∈ L → b 4 ≠ x) : fsN L x = -1005 := by
  unfold fsN
  exact cIf_f (fun ⟨a, ha⟩ => h a ha.1 ha.2.1)
theorem RA.cnt {f : Ar} {L : List Ar} (h : RA f L) (x : Int) : (List.range L.length).countP (fun j => decide (rA f j 4 = x)) = L.countP (fun b => decide (b 4 = x)) := by
  rw [← h.1.countP_eq, List.countP_map]
  rfl
theorem Rpm.cnt {v : Nat → Nat → Int} {L : List Ar} (h : Rpm v L) (x : Int) : (List.range L.length).countP (fun j => decide (v (2 + j) 4 = x)) = L.countP (fun b => decide (b 4 = x)) := by
  rw [← h.1.countP_eq]
  unfold FL
  rw [List.map_map, List.countP_map]
  rfl
-- comparer
noncomputable def zCq (M : Ms) (c : Nat) (y : Int) : Int := if y = 0 then M.2.2.1 c 0 else if y = 1 then ((M.2.1.countP (fun b => decide (b 4 = (c : Int))) : Nat) : Int) else if y = 2 then M.2.2.1 c 1 else if y = 3 then fsN M.2.1 c else -1002
noncomputable def zCpr (Z : Zst) (x y : Int) : Int := if ¬ (0 ≤ x ∧ x ≤ Z.1.1 7 - 1) then -1001 else zCq Z.1 x.toNat y
theorem zCq_d {M : Ms} {c : Nat} {y : Int} (h0 : ¬ y = 0) (h1 : ¬ y = 1) (h2 : ¬ y = 2) (h3 : ¬ y = 3) : zCq M c y = -1002 := by
  unfold zCq
  rw [if_neg h0, if_neg h1, if_neg h2, if_neg h3]
theorem sp_cprC {G : Mm} {B : Nat} {Z : Zst} {T K x y : Int} {Q : dp_Ps} (h : SysC G B Z) (hz : ZI Z T K) (ix : inR x) (iy : inR y) (hq : Q (jI (zCpr Z x y)) G) : Sp 71 4 [vR 7 B, vI (jI x), vI (jI y)] G Q := by
  have hm := hz.1.1
  have hl := hm.2.1
  have hs := hm.1
  unfold SI at hs
  obtain ⟨v, hc, hR⟩ := h.2.2.1.get
  have e7 : v 0 7 = Z.1.1 7 := hR.1.2.1 7 (by decide) (by decide)
  unfold zCpr at hq
  apply vcX7_comparer
  rw [h.1.1, hc.f, e7, jI_sub]
  refine sp_within ix (inR_s (by omega) (by omega)) (inR_s (by omega) (by omega)) (fun t0 t1 => ⟨fun z => absurd z (by decide), fun _ => ?_⟩) (fun z => ⟨fun _ => ?_, fun z => absurd rfl z⟩)
  · rw [if_neg (by omega)] at hq
    obtain ⟨c, rfl⟩ := Int.eq_ofNat_of_zero_le t0
    rw [show ((c : Int)).toNat = c by omega] at hq
    have hc4 : c < 4 := by omega
    have hcm := hR.2.2.2.1 c hc4
    have hz := cmp_z hc4 hcm hm
    have hb := cmp_le hc4 hcm hm
    have key : ∀ k, G.1 (G.2 (G.2 (B + 1) 9) (jI (c : Int)).toNatClampNeg) k = jI (v (23 + c) k) := fun k => by
      rw [hc.r9, jI_cln (by omega), hc.rc hc4, hc.co hc4]
    have eR : G.2 (G.2 (B + 1) 9) (jI (c : Int)).toNatClampNeg = B + 1 + 23 + c := by rw [hc.r9, jI_cln (by omega), hc.rc hc4]
    rw [jI_toInt iy, h.1.1, key 0, key 3]
    refine ⟨jI_in (by omega) (by omega) (by omega), fun q => ?_, fun n0 => ⟨fun q => ?_, fun n1 => ⟨fun q => ?_, fun n2 => ⟨fun q => ?_, fun n3 => ?_⟩⟩⟩⟩
    · rw [q] at hq
      have hq : Q (jI (Z.1.2.2.1 c 0)) G := hq
      rw [eR]
      refine sp_isFree (fun k => hc.co hc4 k) ⟨by omega, by omega⟩ (fun q2 => ⟨fun z => absurd z (by decide), fun _ => ?_⟩) (fun q2 => ⟨fun _ => ?_, fun z => absurd rfl z⟩)
      · rw [hz.mp q2] at hq; exact hq
      · rw [hc.co hc4, (hcm.1 ((cmp_pos hcm).mp (by omega))).2.1]; exact hq
    · rw [q] at hq
      have hq : Q (jI ((Z.1.2.1.countP (fun b => decide (b 4 = (c : Int))) : Nat) : Int)) G := hq
      by_cases he : ∃ a, a ∈ Z.1.2.1 ∧ a 4 = (c : Int)
      · rw [(hcm.1 he).1]; exact hq
      · rw [hcm.2 (fun a ha h4 => he ⟨a, ha, h4⟩) 0 (by decide)]
        rw [List.countP_eq_zero.mpr (fun a ha => by
          have : ¬ a 4 = (c : Int) := fun h4 => he ⟨a, ha, h4⟩
          simp [this])] at hq
        exact hq
    · rw [q] at hq
      have hq : Q (jI (Z.1.2.2.1 c 1)) G := hq
      by_cases he : ∃ a, a ∈ Z.1.2.1 ∧ a 4 = (c : Int)
      · rw [(hcm.1 he).2.2.1]; exact hq
      · rw [hcm.2 (fun a ha h4 => he ⟨a, ha, h4⟩) 3 (by decide)]
        rw [((hm.2.2.2.2 c hc4).2 (fun a ha h4 => he ⟨a, ha, h4⟩)).2] at hq
        exact hq
    · rw [q] at hq
      have hq : Q (jI (fsN Z.1.2.1 c)) G := hq
      refine sp_firstSharer hc hR.1.1 hl ix (hR.2.1.r4 hm) (fun hno => ?_) (fun i hi hi4 hf => ?_)
      · rw [fsN_n (fun b hb => by
          obtain ⟨j, hj, rfl⟩ := hR.2.1.mem.mp hb
          rw [rc7_k (by decide)]
          exact hno j hj)] at hq
        exact hq
      · rw [fsN_s (hR.fst hi hi4 hf), rc7_k (by decide)] at hq
        exact hq
    · rw [zCq_d n0 n1 n2 n3] at hq; exact hq
  · rw [if_pos z] at hq; exact hq
