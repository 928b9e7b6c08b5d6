/-! ===== move, add, comparers that come and go ===== -/
def mTim (M : Ms) (a : Ar) (t : Int) : Ms := (M.1, M.2.1.map (fun b => if b 0 = a 0 then aU b 1 t else b), M.2.2.1, M.2.2.2)
noncomputable def mMov (M : Ms) (a : Ar) (t : Int) : Ms := mSh (mTim (mOff M a) a t)
theorem tim0 {a : Ar} {t : Int} (b : Ar) (k : Nat) (hk : k ≠ 1) : (if b 0 = a 0 then aU b 1 t else b) k = b k := by
  split
  · exact aU_n hk
  · rfl
theorem mTim_MI {M : Ms} {T K : Int} {a : Ar} {t : Int} (h : MI M T K) (ht : 0 ≤ t ∧ t ≤ T + 100000) (ha : ∀ b, b ∈ M.2.1 → b 0 = a 0 → b 4 = -1005) : MI (mTim M a t) T K := by
  obtain ⟨hs, hl, hn, hA, hC⟩ := h
  refine ⟨hs, by show (M.2.1.map _).length ≤ 20; rw [List.length_map]; exact hl, hn.map (fun b => tim0 b 0 (by decide)), fun b hb => ?_, fun c hc => CI_same (hC c hc) rfl (fun x => ?_)⟩
  · obtain ⟨d, hd, rfl⟩ := List.mem_map.mp hb
    obtain ⟨a0, a1, a2, a3, a4, a5, a6, a7⟩ := hA d hd
    refine ⟨by rw [tim0 d 0 (by decide)]; exact a0, ?_, by rw [tim0 d 2 (by decide)]; exact a2, by rw [tim0 d 3 (by decide)]; exact a3, by rw [tim0 d 4 (by decide)]; exact a4, by rw [tim0 d 5 (by decide)]; exact a5, by rw [tim0 d 6 (by decide)]; exact a6, fun k hk => by rw [tim0 d k (by omega)]; exact a7 k hk⟩
    by_cases he : d 0 = a 0
    · rw [if_pos he, aU_s]; exact ht
    · rw [if_neg he]; exact a1
  · constructor
    · rintro ⟨hx, hx4⟩
      obtain ⟨d, hd, rfl⟩ := List.mem_map.mp hx
      rw [tim0 d 4 (by decide)] at hx4
      have he : d 0 ≠ a 0 := fun e => by have := ha d hd e; omega
      rw [if_neg he]
      exact ⟨hd, hx4⟩
    · rintro ⟨hx, hx4⟩
      refine ⟨List.mem_map.mpr ⟨x, hx, if_neg (fun e => ?_)⟩, hx4⟩
      have := ha x hx e; omega
theorem rep_tim {v : Nat → Nat → Int} {M : Ms} {T K : Int} {t : Int} (h : RepC v M) (hm : MI M T K) {p : Nat} (hp : p < M.2.1.length) (h4 : v (2 + p) 4 = -1005) : RepU (v2 v (2 + p) 1 t) (mTim M (rc7 (v (2 + p))) t) := by
  obtain ⟨hsc, hpm, hsr, hcm, hlg⟩ := h
  have hl20 := hm.2.1
  have hn := hm.2.2.1
  have haL := hpm.at hp
  have hna := hpm.NA hn
  have hlen : (mTim M (rc7 (v (2 + p))) t).2.1.length = M.2.1.length := by show (M.2.1.map _).length = _; rw [List.length_map]
  have hr : ∀ j, j ≠ 2 + p → v2 v (2 + p) 1 t j = v j := fun j hj => v2_r hj
  have n4 : ∀ x, x ∈ M.2.1 → x 0 = rc7 (v (2 + p)) 0 → x 4 = -1005 := fun x hx e => by rw [hn.inj hx haL e, rc7_k (by decide)]; exact h4
  refine ⟨hsc.eq (hr 0 (by omega)) (hr 27 (by omega)) (hr 28 (by omega)) hlen rfl, hpm.of (fun j hj => ?_) (fun j hj => ?_), fun c hc => ?_, hlg.eq (hr 28 (by omega)) (hr 29 (by omega))⟩
  · by_cases hji : j = p
    · subst hji
      rw [if_pos rfl, row_aU]
      funext k
      unfold rc7 aU
      by_cases hk : k = 1
      · rw [if_pos (by omega), if_pos hk, if_pos hk]
      · rw [if_neg hk, if_neg hk]
    · rw [if_neg (fun q => hji (hna j p hj hp (by rw [rc7_k (by decide), rc7_k (by decide)] at q; exact q))), hr _ (by omega)]
  · by_cases hji : j = p
    · subst hji
      rw [v2_n (by omega)]; exact hpm.2 j hj
    · rw [hr _ (by omega)]; exact hpm.2 j hj
  · refine cmp_o (hcm c hc) (hr _ (by omega)) rfl (fun x => ?_) ?_
    · constructor
      · rintro ⟨hx, hx4⟩
        obtain ⟨d, hd, rfl⟩ := List.mem_map.mp hx
        rw [tim0 d 4 (by decide)] at hx4
        have he : d 0 ≠ rc7 (v (2 + p)) 0 := fun e => by have := n4 d hd e; omega
        rw [if_neg he]
        exact ⟨hd, hx4⟩
      · rintro ⟨hx, hx4⟩
        refine ⟨List.mem_map.mpr ⟨x, hx, if_neg (fun e => ?_)⟩, hx4⟩
        have := n4 x hx e; omega
    · show (M.2.1.map _).countP _ = _
      rw [List.countP_map]
      apply List.countP_congr
      intro x hx
      show decide ((if x 0 = _ then _ else x) 4 = _) = true ↔ _
      rw [tim0 x 4 (by decide)]
theorem sp_moveA {G : Mm} {b p : Nat} {v : Nat → Nat → Int} {M : Ms} {T K t : Int} {Q : dp_Ps} (hc : CV G b v) (hR : RepC v M) (hm : MI M T K) (hp : p < M.2.1.length) (ht : 0 ≤ t ∧ t ≤ T + 100000)
    (h : ∀ G' v', CV G' b v' → FR b 30 G G' → RepC v' (mMov M (rc7 (v (2 + p))) t) → MI (mMov M (rc7 (v (2 + p))) t) T K → stk (mMov M (rc7 (v (2 + p))) t) → Q (jI 0) G') : Sp 18 4 [vR 2 b, vI (jI (p : Int)), vI (jI t)] G Q := by
  have hl20 := hm.2.1
  have haL := hR.2.1.at hp
  have hra := hc.ra (show p < 20 by omega)
  apply vcX2_moveAlarm
  refine ⟨jI_in (by omega) (by omega) (by omega), ?_⟩
  rw [hc.r8, jI_cln (by omega)]
  refine sp_takeOffM hc hR hm hp (fun G1 v1 k1 k2 k3 k4 k5 => ?_)
  rintro _ rfl
  have hm1 := mOff_MI hm haL
  have hl1 : (mOff M (rc7 (v (2 + p)))).2.1.length = M.2.1.length := by
    unfold mOff
    by_cases h4 : rc7 (v (2 + p)) 4 = -1005
    · rw [cIf_t h4]
    · rw [cIf_f h4]; exact asg_len
  have e0 : rc7 (v1 (2 + p)) 0 = rc7 (v (2 + p)) 0 := by rw [k5, rc7_k (by decide), rc7_k (by decide), aU_n (by decide)]
  have k6 := k1.wal (show p < 20 by omega) 1 t
  rw [k3] at k6
  have k7 := rep_tim (t := t) k4 hm1 (by rw [hl1]; exact hp) (by rw [k5, aU_s])
  have et : mTim (mOff M (rc7 (v (2 + p)))) (rc7 (v1 (2 + p))) t = mTim (mOff M (rc7 (v (2 + p)))) (rc7 (v (2 + p))) t := by unfold mTim; rw [e0]
  rw [et] at k7
  have hm2 := mTim_MI (a := rc7 (v (2 + p))) hm1 ht (mOff_n4 hm haL)
  refine sp_sortM k6 k7 hm2 (fun G2 v2' j1 j2 j3 => ?_)
  refine sp_share j1 j3 hm2 (fun G3 v3 M' k9 k10 k11 k12 k13 => ?_)
  have e : mMov M (rc7 (v (2 + p))) t = M' := mSh_eq k11
  exact h G3 v3 k9 ((k2.tr (FR.wI (by omega))).tr (j2.tr k10)) (by rw [e]; exact k12) (by rw [e]; exact k13) (by rw [e]; obtain ⟨_, -, hs⟩ := k11; exact hs)
-- a new alarm
def nAl (x t p r : Int) : Ar := fun k => if k = 0 then x else if k = 1 then t else if k = 2 then p else if k = 3 then r else if k = 4 then -1005 else if k = 5 then 0 else if k = 6 then -1005 else 0
def mIns (M : Ms) (t p r : Int) : Ms := (aU M.1 6 (M.1 6 + 1), M.2.1 ++ [nAl (M.1 6) t p r], M.2.2.1, M.2.2.2)
noncomputable def mAdd (M : Ms) (t p r : Int) : Ms := mSh (mIns M t p r)
theorem mIns_MI {M : Ms} {T K t p r : Int} (h : MI M T K) (hl : M.2.1.length + 1 ≤ 20) (he : M.1 6 + 1 ≤ 500) (ht : 0 ≤ t ∧ t ≤ T + 100000) (hp : 0 ≤ p ∧ p ≤ 9999) (hr : 0 ≤ r ∧ r ≤ 3) : MI (mIns M t p r) T K := by
  obtain ⟨hs, hl', hn, hA, hC⟩ := h
  have e : ∀ k, k ≠ 6 → aU M.1 6 (M.1 6 + 1) k = M.1 k := fun k hk => aU_n hk
  refine ⟨?_, by show (M.2.1 ++ [_]).length ≤ 20; rw [List.length_append]; exact hl, ?_, fun b hb => ?_, fun c hc => CI_same (hC c hc) rfl (fun x => ?_)⟩
  · unfold SI at hs ⊢
    show _ ∧ _
    simp only [mIns, e 0 (by decide), e 1 (by decide), e 2 (by decide), e 3 (by decide), e 4 (by decide), e 7 (by decide), e 10 (by decide), e 14 (by decide), aU_s]
    omega
  · show NI (M.2.1 ++ [_])
    refine List.pairwise_append.mpr ⟨hn, List.pairwise_singleton _ _, fun a ha b hb => ?_⟩
    rw [List.mem_singleton] at hb
    rw [hb]
    have := (hA a ha).1
    show a 0 ≠ M.1 6
    omega
  · have hb : b ∈ M.2.1 ++ [nAl (M.1 6) t p r] := hb
    rcases List.mem_append.mp hb with q | q
    · obtain ⟨a0, a1, a2, a3, a4, a5, a6, a7⟩ := hA b q
      exact ⟨⟨a0.1, by show b 0 < aU M.1 6 (M.1 6 + 1) 6; rw [aU_s]; omega⟩, a1, a2, a3, by show b 4 = -1005 ∨ (0 ≤ b 4 ∧ b 4 < aU M.1 6 (M.1 6 + 1) 7); rw [e 7 (by decide)]; exact a4, a5, a6, a7⟩
    · rw [List.mem_singleton] at q
      rw [q]
      unfold SI at hs
      refine ⟨⟨by show 0 ≤ M.1 6; omega, by show M.1 6 < aU M.1 6 (M.1 6 + 1) 6; rw [aU_s]; omega⟩, ht, hp, hr, Or.inl rfl, by show 0 ≤ (0 : Int) ∧ (0 : Int) ≤ K; omega, by show -1005 ≤ (-1005 : Int) ∧ (-1005 : Int) ≤ T; omega, fun k hk => ?_⟩
      unfold nAl
      rw [if_neg (by omega), if_neg (by omega), if_neg (by omega), if_neg (by omega), if_neg (by omega), if_neg (by omega), if_neg (by omega)]
  · show (x ∈ M.2.1 ++ [_] ∧ _) ↔ _
    rw [List.mem_append, List.mem_singleton]
    constructor
    · rintro ⟨q | q, h4⟩
      · exact ⟨q, h4⟩
      · rw [q] at h4
        have h4 : (-1005 : Int) = c := h4
        omega
    · rintro ⟨q, h4⟩
      exact ⟨Or.inl q, h4⟩
def vBeg (v : Nat → Nat → Int) (i : Nat) (x1 x2 x3 x4 : Int) : Nat → Nat → Int := v2 (v2 (v2 (v2 (v2 (v2 (v2 (v2 v (2 + i) 0 x1) (2 + i) 1 x2) (2 + i) 2 x3) (2 + i) 3 x4) (2 + i) 4 (-1005)) (2 + i) 5 0) (2 + i) 6 (-1005)) (2 + i) 7 0
theorem vBeg_r {v : Nat → Nat → Int} {i j : Nat} {x1 x2 x3 x4 : Int} (h : j ≠ 2 + i) : vBeg v i x1 x2 x3 x4 j = v j := by
  unfold vBeg
  rw [v2_r h, v2_r h, v2_r h, v2_r h, v2_r h, v2_r h, v2_r h, v2_r h]
theorem vBeg_s {v : Nat → Nat → Int} {i : Nat} {x1 x2 x3 x4 : Int} : rc7 (vBeg v i x1 x2 x3 x4 (2 + i)) = nAl x1 x2 x3 x4 := by
  unfold vBeg
  simp only [row_aU]
  funext k
  unfold rc7 nAl
  by_cases h7 : k < 7
  · rw [if_pos h7]
    rcases (show k = 0 ∨ k = 1 ∨ k = 2 ∨ k = 3 ∨ k = 4 ∨ k = 5 ∨ k = 6 by omega) with rfl | rfl | rfl | rfl | rfl | rfl | rfl <;> rfl
  · rw [if_neg h7, if_neg (by omega), if_neg (by omega), if_neg (by omega), if_neg (by omega), if_neg (by omega), if_neg (by omega), if_neg (by omega)]
theorem sp_addA {G : Mm} {b : Nat} {v : Nat → Nat → Int} {M : Ms} {T K t p r : Int} {Q : dp_Ps} (hc : CV G b v) (hR : RepC v M) (hm : MI M T K) (hl : M.2.1.length + 1 ≤ 20) (he : M.1 6 + 1 ≤ 500) (ht : 0 ≤ t ∧ t ≤ T + 100000) (hp : 0 ≤ p ∧ p ≤ 9999) (hr : 0 ≤ r ∧ r ≤ 3)
    (h : ∀ G' v', CV G' b v' → FR b 30 G G' → RepC v' (mAdd M t p r) → MI (mAdd M t p r) T K → stk (mAdd M t p r) → Q (jI (M.1 6)) G') : Sp 16 5 [vR 2 b, vI (jI t), vI (jI p), vI (jI r)] G Q := by
  have hs := hm.1
  unfold SI at hs
  have h6 : v 0 6 = M.1 6 := hR.1.2.1 6 (by decide) (by decide)
  apply vcX2_addAlarm
  refine sp_hasRoom hc hR.1.1 (by omega) (by omega) (by omega) (fun _ => ⟨fun q => absurd q (by decide), fun _ => ?_⟩) (fun q => by omega)
  rw [hc.f, hR.1.1, hc.f, h6]
  refine ⟨jI_in (by omega) (by omega) (by omega), ?_⟩
  rw [hc.r8, jI_cln (by omega)]
  refine sp_begin hc (by omega) (fun G1 k1 k2 k3 => ?_)
  have k1 : CV G1 b (vBeg v M.2.1.length (M.1 6) t p r) := k1
  have hv0 : vBeg v M.2.1.length (M.1 6) t p r 0 = v 0 := vBeg_r (by omega)
  rintro _ rfl _ rfl
  have e5 : G1.1 b 5 + jI 1 = jI ((M.2.1.length : Int) + 1) := by rw [k1.f, hv0, hR.1.1, jI_add]
  rw [e5]
  have k4 := k1.wf 5 ((M.2.1.length : Int) + 1)
  have e6 : (wI G1 b 5 (jI ((M.2.1.length : Int) + 1))).1 b 6 + jI 1 = jI (M.1 6 + 1) := by rw [k4.f, v2_n (by omega), hv0, h6, jI_add]
  rw [e6]
  have k5 := k4.wf 6 (M.1 6 + 1)
  have hm1 := mIns_MI hm hl he ht hp hr
  have hlen : (mIns M t p r).2.1.length = M.2.1.length + 1 := by show (M.2.1 ++ [_]).length = _; rw [List.length_append]; rfl
  have hrr : ∀ j, j ≠ 0 → v2 (v2 (vBeg v M.2.1.length (M.1 6) t p r) 0 5 ((M.2.1.length : Int) + 1)) 0 6 (M.1 6 + 1) j = vBeg v M.2.1.length (M.1 6) t p r j := fun j hj => by rw [v2_r hj, v2_r hj]
  have hro : ∀ j, j ≠ 0 → j ≠ 2 + M.2.1.length → v2 (v2 (vBeg v M.2.1.length (M.1 6) t p r) 0 5 ((M.2.1.length : Int) + 1)) 0 6 (M.1 6 + 1) j = v j := fun j hj h2 => by rw [hrr j hj, vBeg_r h2]
  have hU : RepU (v2 (v2 (vBeg v M.2.1.length (M.1 6) t p r) 0 5 ((M.2.1.length : Int) + 1)) 0 6 (M.1 6 + 1)) (mIns M t p r) := by
    refine ⟨⟨?_, fun k hk hk5 => ?_, fun k hk => ?_, ?_⟩, ⟨?_, fun i hi => ?_⟩, fun c hc4 => ?_, hR.2.2.2.2.eq (hro 28 (by omega) (by omega)) (hro 29 (by omega) (by omega))⟩
    · rw [v2_n (by omega), v2_s, hlen]; omega
    · show _ = aU M.1 6 (M.1 6 + 1) k
      by_cases hk6 : k = 6
      · rw [hk6, v2_s, aU_s]
      · rw [v2_n (by omega), v2_n (by omega), hv0, aU_n hk6]
        exact hR.1.2.1 k hk hk5
    · rw [hro 27 (by omega) (by omega)]
      show _ = aU M.1 6 (M.1 6 + 1) (8 + k)
      rw [aU_n (by omega)]
      exact hR.1.2.2.1 k hk
    · rw [hro 28 (by omega) (by omega)]
      show _ = aU M.1 6 (M.1 6 + 1) 14
      rw [aU_n (by omega)]
      exact hR.1.2.2.2
    · rw [hlen, FL_succ, List.map_append]
      refine List.Perm.append ?_ ?_
      · rw [FL_eq (w := v) (fun i hi => hro _ (by omega) (by omega))]
        exact hR.2.1.1
      · rw [hrr _ (by omega)]
        show [rc7 (vBeg _ _ _ _ _ _ _)].Perm _
        rw [vBeg_s]
    · rw [hlen] at hi
      by_cases hin : i = M.2.1.length
      · rw [hrr _ (by omega), hin]
        unfold vBeg
        rw [v2_s]
      · rw [hro _ (by omega) (by omega)]
        exact hR.2.1.2 i (by omega)
    · refine cmp_o (hR.2.2.2.1 c hc4) (hro _ (by omega) (by omega)) rfl (fun x => ?_) ?_
      · show (x ∈ M.2.1 ++ [_] ∧ _) ↔ _
        rw [List.mem_append, List.mem_singleton]
        constructor
        · rintro ⟨q | q, h4⟩
          · exact ⟨q, h4⟩
          · rw [q] at h4
            have h4 : (-1005 : Int) = c := h4
            omega
        · rintro ⟨q, h4⟩
          exact ⟨Or.inl q, h4⟩
      · show (M.2.1 ++ [_]).countP _ = _
        rw [List.countP_append, List.countP_singleton]
        have : ¬ (nAl (M.1 6) t p r 4 = (c : Int)) := by
          show ¬ ((-1005 : Int) = c)
          omega
        simp [this]
  have hf2 : FR b 30 G (wI (wI G1 b 5 (jI ((M.2.1.length : Int) + 1))) b 6 (jI (M.1 6 + 1))) := k2.tr ((FR.wI (by omega)).tr (FR.wI (by omega)))
  refine sp_sortM k5 hU hm1 (fun G2 v2' j1 j2 j3 => ?_)
  refine sp_share j1 j3 hm1 (fun G3 v3 M' k9 k10 k11 k12 k13 => ?_)
  have e : mAdd M t p r = M' := mSh_eq k11
  exact h G3 v3 k9 (hf2.tr (j2.tr k10)) (by rw [e]; exact k12) (by rw [e]; exact k13) (by rw [e]; obtain ⟨_, -, hs⟩ := k11; exact hs)
-- comparers
def mFr (M : Ms) (c : Nat) : Ms := (M.1, uns M.2.1 c, cU M.2.2.1 c (-1005) 0, M.2.2.2)
def mFrs : Nat → Nat → Ms → Ms
  | 0, _, M => M
  | k + 1, j, M => mFrs k (j + 1) (mFr M j)
theorem mFr_MI {M : Ms} {T K : Int} {c : Nat} (h : MI M T K) : MI (mFr M c) T K := by
  obtain ⟨hs, hl, hn, hA, hC⟩ := h
  refine ⟨hs, by show (uns _ _).length ≤ 20; rw [uns_len]; exact hl, uns_NI hn, AI_uns hA, fun d hd => ?_⟩
  by_cases hdc : d = c
  · subst hdc
    refine ⟨fun q => ?_, fun _ => ⟨cU_s0, cU_s1⟩⟩
    obtain ⟨x, hx, hx4⟩ := q
    obtain ⟨e, he, hk, g⟩ := uns_in hx
    rcases g with ⟨-, g⟩ | ⟨g0, g⟩
    · rw [g, aU_s] at hx4; omega
    · rw [g] at hx4; exact absurd hx4 g0
  · exact CI_same (hC d hd) (cU_n hdc) (fun x => uns_at (by omega) (by omega) x)
theorem mFrs_0 : ∀ (k j : Nat) (M : Ms), (mFrs k j M).1 = M.1
  | 0, _, _ => rfl
  | k + 1, j, M => mFrs_0 k (j + 1) (mFr M j)
theorem mFrs_MI {T K : Int} : ∀ (k j : Nat) (M : Ms), MI M T K → MI (mFrs k j M) T K
  | 0, _, _, h => h
  | k + 1, j, M, h => mFrs_MI k (j + 1) (mFr M j) (mFr_MI h)
/-- none of the freed comparers has an alarm -/
theorem mFrs_no : ∀ (k j : Nat) (M : Ms) (x : Ar), x ∈ (mFrs k j M).2.1 → (x 4 = -1005 ∨ ∃ y, y ∈ M.2.1 ∧ y 4 = x 4) ∧ ∀ d : Nat, j ≤ d → d < j + k → x 4 ≠ d
  | 0, j, M, x, h => ⟨Or.inr ⟨x, h, rfl⟩, fun d h1 h2 => by omega⟩
  | k + 1, j, M, x, h => by
    obtain ⟨h1, h2⟩ := mFrs_no k (j + 1) (mFr M j) x h
    have key : x 4 = -1005 ∨ (∃ y, y ∈ M.2.1 ∧ y 4 = x 4 ∧ x 4 ≠ j) := by
      rcases h1 with h1 | ⟨y, hy, hy4⟩
      · exact Or.inl h1
      · obtain ⟨e, he, hk, g⟩ := uns_in hy
        rcases g with ⟨-, g⟩ | ⟨g0, g⟩
        · rw [g, aU_s] at hy4; exact Or.inl hy4.symm
        · rw [g] at hy4; exact Or.inr ⟨e, he, hy4, by rw [← hy4]; exact g0⟩
    refine ⟨?_, fun d hd1 hd2 => ?_⟩
    · rcases key with q | ⟨y, hy, hy4, -⟩
      · exact Or.inl q
      · exact Or.inr ⟨y, hy, hy4⟩
    · rcases (show d = j ∨ j + 1 ≤ d by omega) with q | q
      · rcases key with q2 | ⟨y, hy, hy4, hne⟩
        · omega
        · rw [q]; exact hne
      · exact h2 d q (by omega)
def mSet7 (M : Ms) (many : Int) : Ms := (aU M.1 7 many, M.2.1, M.2.2.1, M.2.2.2)
noncomputable def mCh (M : Ms) (many : Nat) : Ms := mSh (mSet7 (mFrs ((M.1 7).toNat - many) many M) many)
theorem mSet7_MI {M : Ms} {T K : Int} {many : Nat} (h : MI M T K) (h1 : 1 ≤ many) (h4 : many ≤ 4) : MI (mSet7 (mFrs ((M.1 7).toNat - many) many M) many) T K := by
  have hA0 := h.2.2.2.1
  obtain ⟨hs, hl, hn, hA, hC⟩ := mFrs_MI ((M.1 7).toNat - many) many M h
  have e1 := mFrs_0 ((M.1 7).toNat - many) many M
  have hno := mFrs_no ((M.1 7).toNat - many) many M
  generalize mFrs ((M.1 7).toNat - many) many M = N at *
  have e : ∀ k, k ≠ 7 → aU N.1 7 (many : Int) k = N.1 k := fun k hk => aU_n hk
  refine ⟨?_, hl, hn, fun b hb => ?_, fun c hc => hC c hc⟩
  · unfold SI at hs ⊢
    simp only [mSet7, e 0 (by decide), e 1 (by decide), e 2 (by decide), e 3 (by decide), e 4 (by decide), e 6 (by decide), e 10 (by decide), e 14 (by decide), aU_s]
    omega
  · obtain ⟨a0, a1, a2, a3, a4, a5, a6, a7⟩ := hA b hb
    refine ⟨by show 0 ≤ b 0 ∧ b 0 < aU N.1 7 (many : Int) 6; rw [e 6 (by decide)]; exact a0, a1, a2, a3, ?_, a5, a6, a7⟩
    show b 4 = -1005 ∨ (0 ≤ b 4 ∧ b 4 < aU N.1 7 (many : Int) 7)
    rw [aU_s]
    rcases a4 with q | ⟨q1, q2⟩
    · exact Or.inl q
    · refine Or.inr ⟨q1, ?_⟩
      rw [e1] at q2
      refine Classical.byContradiction (fun q3 => ?_)
      exact (hno b hb).2 (b 4).toNat (by omega) (by omega) (by omega)
theorem rep_fr {v : Nat → Nat → Int} {M : Ms} (h : RepC v M) (hl20 : M.2.1.length ≤ 20) {c : Nat} (hc : c < 4) : RepC (vRel (vSend v M.2.1.length c) c) (mFr M c) := by
  obtain ⟨hsc, hpm, hsr, hcm, hlg⟩ := h
  have hR : ∀ j, j ≠ 23 + c → ¬ (2 ≤ j ∧ j < 2 + M.2.1.length) → vRel (vSend v M.2.1.length c) c j = v j := fun j h1 h2 => by rw [vRel_r h1, vSend_r h2]
  refine ⟨hsc.eq (hR 0 (by omega) (by omega)) (hR 27 (by omega) (by omega)) (hR 28 (by omega) (by omega)) uns_len rfl, hpm.uns (fun j hj => by rw [vRel_r (by omega), vSend_a hj]), ?_, fun d hd => ?_, hlg.eq (hR 28 (by omega) (by omega)) (hR 29 (by omega) (by omega))⟩
  · show SRT _ (uns _ _).length
    rw [uns_len]
    refine hsr.eq (fun j hj k hk => ?_)
    rw [vRel_r (by omega), vSend_a hj]
    split
    · exact aU_n hk
    · rfl
  · by_cases hdc : d = c
    · subst hdc
      refine ⟨fun q => ?_, fun _ k hk => ?_⟩
      · obtain ⟨x, hx, hx4⟩ := q
        obtain ⟨e, he, hk, g⟩ := uns_in hx
        rcases g with ⟨-, g⟩ | ⟨g0, g⟩
        · rw [g, aU_s] at hx4; omega
        · rw [g] at hx4; exact absurd hx4 g0
      · unfold vRel
        rcases (show k = 0 ∨ k = 1 ∨ k = 2 ∨ k = 3 by omega) with rfl | rfl | rfl | rfl
        · rw [v2_n (by omega), v2_n (by omega), v2_n (by omega), v2_s]
        · rw [v2_n (by omega), v2_n (by omega), v2_s]
        · rw [v2_n (by omega), v2_s]
        · rw [v2_s]
    · exact cmp_o (hcm d hd) (hR _ (by omega) (by omega)) (cU_n hdc) (fun x => uns_at (by omega) (by omega) x) (cnt_uns_o (by omega) (by omega))
theorem sp_change {G : Mm} {b many : Nat} {v : Nat → Nat → Int} {M : Ms} {T K : Int} {Q : dp_Ps} (hc : CV G b v) (hR : RepC v M) (hm : MI M T K) (h1 : 1 ≤ many) (h4 : many ≤ 4)
    (h : ∀ G' v', CV G' b v' → FR b 30 G G' → RepC v' (mCh M many) → MI (mCh M many) T K → stk (mCh M many) → Q (jI 0) G') : Sp 26 3 [vR 2 b, vI (jI (many : Int))] G Q := by
  have hs := hm.1
  unfold SI at hs
  apply vcX2_changeComparers
  have key : ∀ k j : Nat, ∀ (G1 : Mm) (v1 : Nat → Nat → Int) (M1 : Ms), k = (M.1 7).toNat - j → j ≤ 5 → CV G1 b v1 → FR b 30 G G1 → RepC v1 M1 → MI M1 T K → M1.1 = M.1 → mFrs k j M1 = mFrs ((M.1 7).toNat - many) many M → Wp 26 2 [some (vR 2 b), some (vI (jI (many : Int))), some (vI (jI (j : Int)))] [] G1 Q := by
    intro k
    induction k with
    | zero =>
      intro j G1 v1 M1 hk hj5 hc1 hf1 hR1 hm1 he1 hf
      have h7 : v1 0 7 = M.1 7 := by rw [hR1.1.2.1 7 (by decide) (by decide), he1]
      apply vcX2_changeComparers_2
      rw [hc1.f, h7, jI_le (inR_s (by omega) (by omega)) (inR_s (by omega) (by omega))]
      refine ⟨fun _ => ?_, fun q => by omega⟩
      rintro _ rfl
      have k1 := hc1.wf 7 (many : Int)
      have hf : M1 = mFrs ((M.1 7).toNat - many) many M := hf
      have hR2 : RepC (v2 v1 0 7 (many : Int)) (mSet7 M1 many) := by
        obtain ⟨hsc, hpm, hsr, hcm, hlg⟩ := hR1
        have hl20 := hm1.2.1
        refine ⟨⟨by rw [v2_n (by omega)]; exact hsc.1, fun k hk hk5 => ?_, fun k hk => ?_, ?_⟩, hpm.eq (fun i hi => v2_r (by omega)), hsr.eq (fun i hi k hk => v2_n (by omega)), fun c hc4 => cmp_row (hcm c hc4) (v2_r (by omega)), hlg.eq (v2_r (by omega)) (v2_r (by omega))⟩
        · show _ = aU M1.1 7 (many : Int) k
          by_cases hk7 : k = 7
          · rw [hk7, v2_s, aU_s]
          · rw [v2_n (by omega), aU_n hk7]; exact hsc.2.1 k hk hk5
        · show _ = aU M1.1 7 (many : Int) (8 + k)
          rw [v2_n (by omega), aU_n (by omega)]; exact hsc.2.2.1 k hk
        · show _ = aU M1.1 7 (many : Int) 14
          rw [v2_n (by omega), aU_n (by omega)]; exact hsc.2.2.2
      have hm2 := mSet7_MI (many := many) hm h1 h4
      rw [hf] at hR2
      refine sp_share k1 hR2 hm2 (fun G3 v3 M' k9 k10 k11 k12 k13 => ?_)
      have e : mCh M many = M' := mSh_eq k11
      exact h G3 v3 k9 (hf1.tr ((FR.wI (by omega)).tr k10)) (by rw [e]; exact k12) (by rw [e]; exact k13) (by rw [e]; obtain ⟨_, -, hs⟩ := k11; exact hs)
    | succ k ih =>
      intro j G1 v1 M1 hk hj5 hc1 hf1 hR1 hm1 he1 hf
      have h7 : v1 0 7 = M.1 7 := by rw [hR1.1.2.1 7 (by decide) (by decide), he1]
      apply vcX2_changeComparers_2
      rw [hc1.f, h7, jI_le (inR_s (by omega) (by omega)) (inR_s (by omega) (by omega))]
      refine ⟨fun q => by omega, fun _ => ?_⟩
      refine sp_sendOff hc1 hR1.1.1 hm1.2.1 (by omega) (hR1.2.1.r4 hm1) (fun G2 k1 k2 k3 => ?_)
      rw [jI_s]
      exact ih (j + 1) G2 _ (mFr M1 j) (by omega) (by omega) k1 (hf1.tr k2) (rep_fr hR1 hm1.2.1 (by omega)) (mFr_MI hm1) he1 hf
  exact key ((M.1 7).toNat - many) many G v M rfl (by omega) hc FR.rf hR hm rfl rfl

