/-! ===== the other class: alarms set, comparers set ===== -/
theorem sp_rfind {G : Mm} {a : Nat} {f : Ar} {M : Ms} {T K x : Int} {Q : dp_Ps} (hV : RV G a f) (hR : RepR f M) (hB : BI M T K) (hx : inR x)
    (h0 : (∀ b, b ∈ M.2.1 → b 0 ≠ x) → Q (jI (-1005)) G) (h1 : ∀ i : Nat, i < M.2.1.length → rA f i 0 = x → Q (jI (i : Int)) G) : Sp 85 3 [vR 16 a, vI (jI x)] G Q := by
  have hl := hB.2.1
  apply vcX8_find
  have loop : ∀ k i : Nat, k = M.2.1.length - i → i ≤ M.2.1.length → (∀ j, j < i → rA f j 0 ≠ x) → Wp 85 2 [some (vR 16 a), some (vI (jI x)), some (vI (jI (i : Int)))] [] G Q := by
    intro k
    induction k with
    | zero =>
      intro i hk hi hno
      apply vcX8_find_2
      rw [hV, hR.1.1, jI_le (inR_n (by omega)) (inR_n (by omega))]
      refine ⟨fun _ => h0 (fun b hb => ?_), fun q => by omega⟩
      obtain ⟨j, hj, rfl⟩ := hR.2.1.mem.mp hb
      exact hno j (by omega)
    | succ k ih =>
      intro i hk hi hno
      have hi1 : i < M.2.1.length := by omega
      have vi := hB.v hR.2.1 hi1
      have e0 : rA f i 0 = f (14 + 7 * i + 0) := rA_k (by decide)
      apply vcX8_find_2
      rw [hV, hR.1.1, jI_le (inR_n (by omega)) (inR_n (by omega))]
      refine ⟨fun q => by omega, fun _ => ?_⟩
      refine sp_of (k := 0) hV (by omega) (by decide) ?_
      rw [← e0, jI_inj (by rw [e0]; exact ⟨by show _ ≤ f (14 + 7 * i); omega, by show f (14 + 7 * i) < _; omega⟩) hx, jI_add, show ((i : Int) + 1) = ((i + 1 : Nat) : Int) by omega]
      refine ⟨fun q => h1 i hi1 q, fun q => ih (i + 1) (by omega) (by omega) (fun j hj => ?_)⟩
      rcases (show j < i ∨ j = i by omega) with g | g
      · exact hno j g
      · rw [g]; exact q
  exact loop _ 0 rfl (by omega) (fun j hj => by omega)
theorem RA.app {f w : Ar} {L : List Ar} {x : Ar} (h : RA f L) (hf : ∀ i, i < L.length → ∀ k, k < 7 → w (14 + 7 * i + k) = f (14 + 7 * i + k)) (hx : rA w L.length = x) (ho : ∀ a, a ∈ L → a 0 < x 0) : RA w (L ++ [x]) := by
  refine ⟨?_, fun i j hij hj => ?_⟩
  · rw [List.length_append, List.length_singleton, List.range_succ, List.map_append, List.map_singleton, hx]
    refine List.Perm.append_right _ ?_
    have e : (List.range L.length).map (rA w) = (List.range L.length).map (rA f) := by
      apply List.map_congr_left
      intro i hi
      exact rA_eq (hf i (List.mem_range.mp hi))
    rw [e]
    exact h.1
  · rw [List.length_append, List.length_singleton] at hj
    have wi : w (14 + 7 * i) = f (14 + 7 * i) := hf i (by omega) 0 (by decide)
    by_cases hjn : j = L.length
    · have e1 : rA w j 0 = w (14 + 7 * j) := rA_k (k := 0) (by decide)
      have e2 : rA f i 0 = f (14 + 7 * i) := rA_k (k := 0) (by decide)
      have := ho _ (h.at (i := i) (by omega))
      rw [wi, ← e1, hjn, hx]
      omega
    · have wj : w (14 + 7 * j) = f (14 + 7 * j) := hf j (by omega) 0 (by decide)
      rw [wi, wj]
      exact h.2 i j hij (by omega)
theorem sp_rsets {G : Mm} {a : Nat} {f : Ar} {M : Ms} {T K t p r : Int} {Q : dp_Ps} (hV : RV G a f) (hR : RepR f M) (hm : MI M T K) (hl : M.2.1.length + 1 ≤ 20) (he : M.1 6 + 1 ≤ 500) (ht : 0 ≤ t ∧ t ≤ T + 100000) (hp : 0 ≤ p ∧ p ≤ 9999) (hr : 0 ≤ r ∧ r ≤ 3)
    (h : ∀ G' f', RV G' a f' → RO G G' a → RepR f' (mAdd M t p r) → MI (mAdd M t p r) T K → stk (mAdd M t p r) → Q (jI 0) G') : Sp 107 5 [vR 16 a, vI (jI t), vI (jI p), vI (jI r)] G Q := by
  have hI := mIns_MI (t := t) (p := p) (r := r) hm hl he ht hp hr
  have e3 : f 3 = M.1 6 := hR.1.2 3 (by decide) (by decide)
  apply vcX8_sets
  rintro _ rfl
  rw [hV 2, hR.1.1, jI_add]
  have k0 := hV.wr 2 ((M.2.1.length : Int) + 1)
  rw [k0 3, aU_n (show 3 ≠ 2 by decide), e3]
  generalize hn : M.2.1.length = n at *
  refine sp_put (k := 0) k0 (by omega) (by decide) (fun G1 k1 o1 => ?_)
  refine sp_put (k := 1) k1 (by omega) (by decide) (fun G2 k2 o2 => ?_)
  refine sp_put (k := 2) k2 (by omega) (by decide) (fun G3 k3 o3 => ?_)
  refine sp_put (k := 3) k3 (by omega) (by decide) (fun G4 k4 o4 => ?_)
  refine sp_put (k := 4) (x := -1005) k4 (by omega) (by decide) (fun G5 k5 o5 => ?_)
  refine sp_put (k := 5) (x := 0) k5 (by omega) (by decide) (fun G6 k6 o6 => ?_)
  refine sp_put (k := 6) (x := -1005) k6 (by omega) (by decide) (fun G7 k7 o7 => ?_)
  rintro _ rfl
  generalize hw : aU (aU (aU (aU (aU (aU (aU (aU f 2 ((n : Int) + 1)) (14 + 7 * n + 0) (M.1 6)) (14 + 7 * n + 1) t) (14 + 7 * n + 2) p) (14 + 7 * n + 3) r) (14 + 7 * n + 4) (-1005)) (14 + 7 * n + 5) 0) (14 + 7 * n + 6) (-1005) = w at k7
  have wo : ∀ q, q ≠ 2 → (q < 14 + 7 * n ∨ 14 + 7 * n + 7 ≤ q) → w q = f q := by
    intro q h1 h2
    rw [← hw, aU_n (by omega), aU_n (by omega), aU_n (by omega), aU_n (by omega), aU_n (by omega), aU_n (by omega), aU_n (by omega), aU_n (by omega)]
  have w2 : w 2 = (n : Int) + 1 := by
    rw [← hw, aU_n (by omega), aU_n (by omega), aU_n (by omega), aU_n (by omega), aU_n (by omega), aU_n (by omega), aU_n (by omega), aU_s]
  have wA : rA w n = nAl (M.1 6) t p r := by
    funext k
    by_cases hk : k < 7
    · rw [rA_k hk, ← hw]
      unfold nAl
      rcases (show k = 0 ∨ k = 1 ∨ k = 2 ∨ k = 3 ∨ k = 4 ∨ k = 5 ∨ k = 6 by omega) with rfl | rfl | rfl | rfl | rfl | rfl | rfl <;> simp [aU]
    · unfold rA rc7 nAl
      rw [if_neg hk, if_neg (by omega), if_neg (by omega), if_neg (by omega), if_neg (by omega), if_neg (by omega), if_neg (by omega), if_neg (by omega)]
  rw [k7 3, wo 3 (by omega) (by omega), e3, jI_add]
  have k8 := k7.wr 3 (M.1 6 + 1)
  have hR8 : RepR (aU w 3 (M.1 6 + 1)) (mIns M t p r) := by
    obtain ⟨⟨s2, s0⟩, hA, hc, hl2, hlg⟩ := hR
    have hA1 : RA w (M.2.1 ++ [nAl (M.1 6) t p r]) := hA.app (fun i hi k hk => wo _ (by omega) (by omega)) (by rw [hn]; exact wA) (fun b hb => (hm.2.2.2.1 b hb).1.2)
    refine ⟨⟨?_, fun m hm14 hm2 => ?_⟩, hA1.eq (fun q h1 h2 => aU_n (by omega)), fun c hc4 => ?_, by rw [aU_n (by omega), wo _ (by omega) (by omega)]; exact hl2, fun j e he q hq => ?_⟩
    · rw [aU_n (by decide), w2]
      show _ = (((M.2.1 ++ [nAl (M.1 6) t p r]).length : Nat) : Int)
      rw [List.length_append, hn]; rfl
    · show _ = aU M.1 6 (M.1 6 + 1) (hix m)
      by_cases hm3 : m = 3
      · subst hm3
        rw [aU_s]
        exact (aU_s M.1 6 _).symm
      · have hz : hix m ≠ 6 := fun z => hm3 (hix_inj m hm14 3 (by decide) hm2 (by decide) z)
        rw [aU_n hm3, wo m hm2 (by omega), aU_n hz]
        exact s0 m hm14 hm2
    · rw [aU_n (by omega), aU_n (by omega), wo _ (by omega) (by omega), wo _ (by omega) (by omega)]
      exact hc c hc4
    · rw [aU_n (by omega), wo _ (by omega) (by omega)]
      exact hlg j e he q hq
  refine sp_shares k8 hR8 hI (fun G9 f9 M9 k9 o9 k10 k11 k12 => ?_)
  have e : mAdd M t p r = M9 := mSh_eq k10
  refine h G9 f9 k9 ?_ (by rw [e]; exact k11) (by rw [e]; exact k12) (by rw [e]; obtain ⟨_, -, hs⟩ := k10; exact hs)
  exact RO.wr.tr (o1.tr (o2.tr (o3.tr (o4.tr (o5.tr (o6.tr (o7.tr (RO.wr.tr o9))))))))
theorem sp_rsetsC {G : Mm} {a many : Nat} {f : Ar} {M : Ms} {T K : Int} {Q : dp_Ps} (hV : RV G a f) (hR : RepR f M) (hm : MI M T K) (h1 : 1 ≤ many) (h4 : many ≤ 4)
    (h : ∀ G' f', RV G' a f' → RO G G' a → RepR f' (mCh M many) → MI (mCh M many) T K → stk (mCh M many) → Q (jI 0) G') : Sp 112 3 [vR 16 a, vI (jI (many : Int))] G Q := by
  have hs := hm.1
  unfold SI at hs
  apply vcX8_setsComparers
  have key : ∀ k j : Nat, ∀ (G1 : Mm) (f1 : Ar) (M1 : Ms), k = (M.1 7).toNat - j → j ≤ 5 → RV G1 a f1 → RO G G1 a → RepR f1 M1 → MI M1 T K → M1.1 = M.1 → mFrs k j M1 = mFrs ((M.1 7).toNat - many) many M → Wp 112 2 [some (vR 16 a), some (vI (jI (many : Int))), some (vI (jI (j : Int)))] [] G1 Q := by
    intro k
    induction k with
    | zero =>
      intro j G1 f1 M1 hk hj5 hV1 hO hR1 hm1 he1 hf
      have h7 : f1 10 = M.1 7 := by rw [hR1.1.2 10 (by decide) (by decide), he1]; rfl
      apply vcX8_setsComparers_2
      rw [hV1, h7, jI_le (inR_s (by omega) (by omega)) (inR_s (by omega) (by omega))]
      refine ⟨fun _ => ?_, fun q => by omega⟩
      rintro _ rfl
      have hf : M1 = mFrs ((M.1 7).toNat - many) many M := hf
      have hR2 : RepR (aU f1 10 (many : Int)) (mSet7 M1 many) := hR1.hd (k := 10) (by decide) (by decide)
      have hm2 := mSet7_MI (many := many) hm h1 h4
      rw [hf] at hR2
      refine sp_shares (hV1.wr 10 _) hR2 hm2 (fun G3 f3 M' k9 k10 k11 k12 k13 => ?_)
      have e : mCh M many = M' := mSh_eq k11
      exact h G3 f3 k9 (hO.tr (RO.wr.tr k10)) (by rw [e]; exact k12) (by rw [e]; exact k13) (by rw [e]; obtain ⟨_, -, hs⟩ := k11; exact hs)
    | succ k ih =>
      intro j G1 f1 M1 hk hj5 hV1 hO hR1 hm1 he1 hf
      have h7 : f1 10 = M.1 7 := by rw [hR1.1.2 10 (by decide) (by decide), he1]; rfl
      apply vcX8_setsComparers_2
      rw [hV1, h7, jI_le (inR_s (by omega) (by omega)) (inR_s (by omega) (by omega))]
      refine ⟨fun q => by omega, fun _ => ?_⟩
      refine sp_frees hV1 hR1 hm1.B (by omega) (fun G2 f2 k1 k2 k3 _ => ?_)
      rw [jI_add, show ((j : Int) + 1) = ((j + 1 : Nat) : Int) by omega]
      exact ih (j + 1) G2 f2 (mFr M1 j) (by omega) (by omega) k1 (hO.tr k2) k3 (mFr_MI hm1) he1 hf
  exact key ((M.1 7).toNat - many) many G f M rfl (by omega) hV RO.rf hR hm rfl rfl
