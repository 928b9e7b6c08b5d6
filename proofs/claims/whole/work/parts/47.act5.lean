/-! ===== loading, drift, correction: the class; all of them: the other ===== -/
theorem sp_loaC {G : Mm} {B : Nat} {Z : Zst} {T K k : Int} {Q : dp_Ps} (h : SysC G B Z) (hz : ZI Z T K) (ik : inR k)
    (hq : ∀ G', SysC G' B (zLoa Z k).2 → FR B 218 G G' → Q (jI (zLoa Z k).1) G') : Sp 61 3 [vR 7 B, vI (jI k)] G Q := by
  have hm := hz.1.1
  have hs := hm.1
  unfold SI at hs
  obtain ⟨v, hc, hR⟩ := h.2.2.1.get
  have e7 : v 0 4 = Z.1.1 4 := hR.1.2.1 4 (by decide) (by decide)
  unfold zLoa at hq
  apply vcX7_setLoading
  refine sp_within ik (inR_s (by omega) (by omega)) (inR_s (by omega) (by omega)) (fun t0 t1 => ⟨fun z => absurd z (by decide), fun _ => ?_⟩) (fun z => ⟨fun _ => ?_, fun z => absurd rfl z⟩)
  · rw [if_neg (by omega)] at hq
    rw [h.1.1, hc.f, e7, jI_inj ⟨by omega, by omega⟩ ik]
    refine ⟨fun q => ?_, fun q => ?_⟩
    · rw [if_pos q] at hq; exact hq G h FR.rf
    · rw [if_neg q] at hq
      rw [h.1.2.2.2.1]
      refine sp_recC h (fun G1 k1 k2 => ?_)
      rw [k1.1.1]
      rintro _ rfl
      have kf : FR (B + 1) 30 G1 (wI G1 (B + 1) 4 (jI k)) := FR.wI (by omega)
      exact hq _ (k1.main kf (KC.mk ((hc.off k2 (by omega)).wf 4 k) (rep_sc hR hm.2.1 (by decide) (by decide)) hm.2.1)) ((k2.sub (by omega) (by omega)).tr (kf.sub (by omega) (by omega)))
  · rw [if_pos (by omega)] at hq; exact hq G h FR.rf
theorem sp_driC {G : Mm} {B : Nat} {Z : Zst} {T K k : Int} {Q : dp_Ps} (h : SysC G B Z) (hz : ZI Z T K) (ik : inR k)
    (hq : ∀ G', SysC G' B (zDri Z k).2 → FR B 218 G G' → Q (jI (zDri Z k).1) G') : Sp 62 3 [vR 7 B, vI (jI k)] G Q := by
  have hm := hz.1.1
  have hs := hm.1
  unfold SI at hs
  obtain ⟨v, hc, hR⟩ := h.2.2.1.get
  have e7 : v 0 2 = Z.1.1 2 := hR.1.2.1 2 (by decide) (by decide)
  unfold zDri at hq
  apply vcX7_setDrift
  refine sp_within ik (inR_s (by omega) (by omega)) (inR_s (by omega) (by omega)) (fun t0 t1 => ⟨fun z => absurd z (by decide), fun _ => ?_⟩) (fun z => ⟨fun _ => ?_, fun z => absurd rfl z⟩)
  · rw [jI_inj ik (inR_s (by omega) (by omega)), jI_inj ik (inR_s (by omega) (by omega))]
    refine ⟨fun z => ?_, fun z1 => ⟨fun z => ?_, fun z2 => ?_⟩⟩
    · rw [if_pos (Or.inr (Or.inl z))] at hq; exact hq G h FR.rf
    · rw [if_pos (Or.inr (Or.inr z))] at hq; exact hq G h FR.rf
    rw [if_neg (by omega)] at hq
    rw [h.1.1, hc.f, e7, jI_inj ⟨by omega, by omega⟩ ik]
    refine ⟨fun q => ?_, fun q => ?_⟩
    · rw [if_pos q] at hq; exact hq G h FR.rf
    · rw [if_neg q] at hq
      rw [h.1.2.2.2.1]
      refine sp_recC h (fun G1 k1 k2 => ?_)
      rw [k1.1.1]
      rintro _ rfl
      have kf : FR (B + 1) 30 G1 (wI G1 (B + 1) 2 (jI k)) := FR.wI (by omega)
      exact hq _ (k1.main kf (KC.mk ((hc.off k2 (by omega)).wf 2 k) (rep_sc hR hm.2.1 (by decide) (by decide)) hm.2.1)) ((k2.sub (by omega) (by omega)).tr (kf.sub (by omega) (by omega)))
  · rw [if_pos (by omega)] at hq; exact hq G h FR.rf
theorem sp_corC {G : Mm} {B : Nat} {Z : Zst} {T K k : Int} {Q : dp_Ps} (h : SysC G B Z) (hz : ZI Z T K) (hT : 99999 ≤ T) (ik : inR k)
    (hq : ∀ G', SysC G' B (zCor Z k).2 → FR B 218 G G' → Q (jI (zCor Z k).1) G') : Sp 63 3 [vR 7 B, vI (jI k)] G Q := by
  have hm := hz.1.1
  have hs := hm.1
  unfold SI at hs
  obtain ⟨v, hc, hR⟩ := h.2.2.1.get
  have e0 : v 0 0 = Z.1.1 0 := hR.1.2.1 0 (by decide) (by decide)
  unfold zCor at hq
  apply vcX7_correct
  refine sp_within ik (inR_s (by omega) (by omega)) (inR_s (by omega) (by omega)) (fun t0 t1 => ⟨fun z => absurd z (by decide), fun _ => ?_⟩) (fun z => ⟨fun _ => ?_, fun z => absurd rfl z⟩)
  · rw [if_neg (by omega)] at hq
    rw [h.1.1, hc.f, e0, jI_add]
    refine sp_within ⟨by omega, by omega⟩ (inR_s (by omega) (by omega)) ⟨by omega, by omega⟩ (fun t2 t3 => ⟨fun z => absurd z (by decide), fun _ => ?_⟩) (fun z => ⟨fun _ => ?_, fun z => absurd rfl z⟩)
    · rw [if_neg (by omega)] at hq
      rw [jI_inj ik (inR_s (by omega) (by omega))]
      refine ⟨fun q => ?_, fun q => ?_⟩
      · rw [if_pos q] at hq; exact hq G h FR.rf
      · rw [if_neg q] at hq
        rw [h.1.2.2.2.1, h.1.1]
        refine sp_recC h (fun G1 k1 k2 => ?_)
        rw [k1.1.1]
        rintro _ rfl
        rw [wI_2, k1.1.1]
        have hI := mNum_MI (k := 0) (x := Z.1.1 0 + k) hm (by omega)
        refine sp_share ((hc.off k2 (by omega)).wf 0 (Z.1.1 0 + k)) (rep_sc hR hm.2.1 (by decide) (by decide)) hI (fun G2 v2' M2 k3 k4 k5 k6 k7 => ?_)
        have e : mSh (mNum Z.1 0 (Z.1.1 0 + k)) = M2 := mSh_eq k5
        rw [e] at hq
        have kf : FR (B + 1) 30 G1 G2 := (FR.wI (by omega)).tr k4
        exact hq G2 (k1.main kf (KC.mk k3 k6 k7.2.1)) ((k2.sub (by omega) (by omega)).tr (kf.sub (by omega) (by omega)))
    · rw [if_pos z] at hq; exact hq G h FR.rf
  · rw [if_pos z] at hq; exact hq G h FR.rf
/-- a number of the row becomes another -/
theorem sp_becomes {G : Mm} {A k : Nat} {Z : Zst} {T K x : Int} {Q : dp_Ps} (h : SysR G A Z) (hz : ZI Z T K) (ix : inR x) (hk : k = 11 ∨ k = 12 ∨ k = 13)
    (h0 : Z.1.1 (hix k) = x → Q (jI (-1005)) G) (h1 : Z.1.1 (hix k) ≠ x → ∀ G1 G' f, SysR G1 A (Z.1, Z.2.1, push Z.2.2.1 Z.1, Z.2.2.2) → RZ G G1 A → RV G' (A + 1) f → RO G1 G' (A + 1) → RepR f (mNum Z.1 (hix k) x) → Q (jI (Z.1.1 (hix k))) G') :
    Sp 114 4 [vR 8 A, vI (jI (k : Int)), vI (jI x)] G Q := by
  have hm := hz.1.1
  have hs := hm.1
  unfold SI at hs
  obtain ⟨f, hV, hR⟩ := h.2.2.1.get
  have e : f k = Z.1.1 (hix k) := hR.1.2 k (by omega) (by omega)
  have ir : inR (Z.1.1 (hix k)) := by
    rcases hk with rfl | rfl | rfl
    · show inR (Z.1.1 3); exact ⟨by omega, by omega⟩
    · show inR (Z.1.1 4); exact ⟨by omega, by omega⟩
    · show inR (Z.1.1 2); exact ⟨by omega, by omega⟩
  apply vcX8_becomes
  rw [h.1.1, jI_cln (by omega), hV k, e, jI_inj ir ix]
  refine ⟨jI_in (by omega) (by omega) (by omega), h0, fun q => ?_⟩
  refine sp_recR h (fun G1 k1 k2 => ?_)
  rw [k1.1.1]
  refine ⟨jI_in (by omega) (by omega) (by omega), ?_⟩
  rintro _ rfl
  exact h1 q G1 _ _ k1 k2 ((k2.row hV).wr k x) RO.wr (hR.hd (by omega) (by omega))
theorem sp_winR {G : Mm} {A : Nat} {Z : Zst} {T K k : Int} {Q : dp_Ps} (h : SysR G A Z) (hz : ZI Z T K) (ik : inR k)
    (hq : ∀ G', SysR G' A (zWin Z k).2 → FR A 7 G G' → Q (jI (zWin Z k).1) G') : Sp 115 3 [vR 8 A, vI (jI k)] G Q := by
  have hm := hz.1.1
  have hs := hm.1
  unfold SI at hs
  unfold zWin at hq
  have i5 : inR (-1005) := inR_s (by omega) (by omega)
  apply vcX8_setWindow
  refine sp_in ik (inR_s (by omega) (by omega)) (inR_s (by omega) (by omega)) (fun t0 t1 => ⟨fun z => absurd z (by decide), fun _ => ?_⟩) (fun z => ⟨fun _ => ?_, fun z => absurd rfl z⟩)
  · rw [if_neg (by omega)] at hq
    refine sp_becomes (k := 11) h hz ik (by omega) (fun q => ⟨fun _ => ?_, fun z => absurd rfl z⟩) (fun q G1 G2 f k1 k2 k3 k4 k5 => ?_)
    · have q : Z.1.1 3 = k := q
      rw [if_pos q] at hq; exact hq G h FR.rf
    · have q : ¬ Z.1.1 3 = k := q
      rw [if_neg q] at hq
      show (jI (Z.1.1 3) = jI (-1005) → _) ∧ (¬ jI (Z.1.1 3) = jI (-1005) → _)
      rw [jI_inj ⟨by omega, by omega⟩ i5]
      refine ⟨fun z => by omega, fun _ => ?_⟩
      have r2 : G2.2 A 0 = A + 1 := by rw [k4.1]; exact k1.1.1
      rw [r2]
      have hI := mNum_MI (k := 3) (x := k) hm (by omega)
      refine sp_shares k3 k5 hI (fun G3 f3 M3 k6 k7 k8 k9 k10 => ?_)
      have e : mSh (mNum Z.1 3 k) = M3 := mSh_eq k8
      rw [e] at hq
      exact hq G3 (k1.main (k4.tr k7) (KR.mk k6 k9 k10.B)) (k2.FR.tr ((k4.tr k7).FR (by omega)))
  · rw [if_pos z] at hq; exact hq G h FR.rf
theorem sp_loaR {G : Mm} {A : Nat} {Z : Zst} {T K k : Int} {Q : dp_Ps} (h : SysR G A Z) (hz : ZI Z T K) (ik : inR k)
    (hq : ∀ G', SysR G' A (zLoa Z k).2 → FR A 7 G G' → Q (jI (zLoa Z k).1) G') : Sp 116 2 [vR 8 A, vI (jI k)] G Q := by
  unfold zLoa at hq
  apply vcX8_setLoading
  refine sp_in ik (inR_s (by omega) (by omega)) (inR_s (by omega) (by omega)) (fun t0 t1 => ⟨fun z => absurd z (by decide), fun _ => ?_⟩) (fun z => ⟨fun _ => ?_, fun z => absurd rfl z⟩)
  · rw [if_neg (by omega)] at hq
    refine sp_becomes (k := 12) h hz ik (by omega) (fun q => ?_) (fun q G1 G2 f k1 k2 k3 k4 k5 => ?_)
    · have q : Z.1.1 4 = k := q
      rw [if_pos q] at hq; exact hq G h FR.rf
    · have q : ¬ Z.1.1 4 = k := q
      rw [if_neg q] at hq
      have hI := mNum_MI (k := 4) (x := k) hz.1.1 (by omega)
      exact hq G2 (k1.main k4 (KR.mk k3 k5 hI.B)) (k2.FR.tr (k4.FR (by omega)))
  · rw [if_pos z] at hq; exact hq G h FR.rf
theorem sp_driR {G : Mm} {A : Nat} {Z : Zst} {T K k : Int} {Q : dp_Ps} (h : SysR G A Z) (hz : ZI Z T K) (ik : inR k)
    (hq : ∀ G', SysR G' A (zDri Z k).2 → FR A 7 G G' → Q (jI (zDri Z k).1) G') : Sp 117 3 [vR 8 A, vI (jI k)] G Q := by
  unfold zDri at hq
  have go : ¬ (¬ (-999 ≤ k ∧ k ≤ 999) ∨ k = 1 ∨ k = -1) → Sp 114 4 [vR 8 A, vI (jI 13), vI (jI k)] G (fun y G4 => Q y G4) := by
    intro z
    rw [if_neg z] at hq
    refine sp_becomes (k := 13) h hz ik (by omega) (fun q => ?_) (fun q G1 G2 f k1 k2 k3 k4 k5 => ?_)
    · have q : Z.1.1 2 = k := q
      rw [if_pos q] at hq; exact hq G h FR.rf
    · have q : ¬ Z.1.1 2 = k := q
      rw [if_neg q] at hq
      have hI := mNum_MI (k := 2) (x := k) hz.1.1 (by omega)
      exact hq G2 (k1.main k4 (KR.mk k3 k5 hI.B)) (k2.FR.tr (k4.FR (by omega)))
  apply vcX8_setDrift
  rw [jI_inj ik (inR_s (by omega) (by omega))]
  refine ⟨fun q => go (by omega), fun q => ?_⟩
  refine sp_in ik (inR_s (by omega) (by omega)) (inR_s (by omega) (by omega)) (fun t0 t1 => ⟨fun z => absurd z (by decide), fun _ => go (by omega)⟩) (fun z => ⟨fun _ => ?_, fun z => absurd rfl z⟩)
  refine sp_in ik (inR_s (by omega) (by omega)) (inR_s (by omega) (by omega)) (fun t0 t1 => ⟨fun z => absurd z (by decide), fun _ => go (by omega)⟩) (fun z2 => ⟨fun _ => ?_, fun z => absurd rfl z⟩)
  rw [if_pos (by omega)] at hq
  exact hq G h FR.rf
theorem sp_corR {G : Mm} {A : Nat} {Z : Zst} {T K k : Int} {Q : dp_Ps} (h : SysR G A Z) (hz : ZI Z T K) (hT : 99999 ≤ T) (ik : inR k)
    (hq : ∀ G', SysR G' A (zCor Z k).2 → FR A 7 G G' → Q (jI (zCor Z k).1) G') : Sp 118 2 [vR 8 A, vI (jI k)] G Q := by
  have hm := hz.1.1
  have hs := hm.1
  unfold SI at hs
  obtain ⟨f, hV, hR⟩ := h.2.2.1.get
  have e0 : f 0 = Z.1.1 0 := hR.1.2 0 (by decide) (by decide)
  unfold zCor at hq
  apply vcX8_correct
  refine sp_in ik (inR_s (by omega) (by omega)) (inR_s (by omega) (by omega)) (fun t0 t1 => ⟨fun z => absurd z (by decide), fun _ => ?_⟩) (fun z => ⟨fun _ => ?_, fun z => absurd rfl z⟩)
  · rw [if_neg (by omega)] at hq
    rw [h.1.1, hV 0, e0, jI_add]
    refine sp_in ⟨by omega, by omega⟩ (inR_s (by omega) (by omega)) ⟨by omega, by omega⟩ (fun t2 t3 => ⟨fun z => absurd z (by decide), fun _ => ?_⟩) (fun z => ⟨fun _ => ?_, fun z => absurd rfl z⟩)
    · rw [if_neg (by omega)] at hq
      rw [jI_inj ik (inR_s (by omega) (by omega))]
      refine ⟨fun q => ?_, fun q => ?_⟩
      · rw [if_pos q] at hq; exact hq G h FR.rf
      · rw [if_neg q] at hq
        refine sp_recR h (fun G1 k1 k2 => ?_)
        rw [k1.1.1, k2.row hV 0, e0, jI_add]
        rintro _ rfl
        rw [wI_2, k1.1.1]
        have hI := mNum_MI (k := 0) (x := Z.1.1 0 + k) hm (by omega)
        have hR0 : RepR (aU f 0 (Z.1.1 0 + k)) (mNum Z.1 0 (Z.1.1 0 + k)) := hR.hd (k := 0) (by decide) (by decide)
        refine sp_shares ((k2.row hV).wr 0 (Z.1.1 0 + k)) hR0 hI (fun G3 f3 M3 k6 k7 k8 k9 k10 => ?_)
        have e : mSh (mNum Z.1 0 (Z.1.1 0 + k)) = M3 := mSh_eq k8
        have kO : RO G1 G3 (A + 1) := RO.wr.tr k7
        have k11 := k1.main kO (KR.mk k6 k9 k10.B)
        have e3 : f3 0 = Z.1.1 0 + k := by
          rw [k9.1.2 0 (by decide) (by decide), ← e]
          have : (mSh (mNum Z.1 0 (Z.1.1 0 + k))).1 0 = (mNum Z.1 0 (Z.1.1 0 + k)).1 0 := mSh_k hI (by decide) (by decide)
          show (mSh (mNum Z.1 0 (Z.1.1 0 + k))).1 0 = _
          rw [this]; exact aU_s Z.1.1 0 _
        rw [e] at hq
        rw [k11.1.1, k6 0, e3]
        exact hq G3 k11 (k2.FR.tr (kO.FR (by omega)))
    · rw [if_pos z] at hq; exact hq G h FR.rf
  · rw [if_pos z] at hq; exact hq G h FR.rf
