/-! ===== the class's acts on alarms and comparers, against the state ===== -/
/-- all but the order -/
def RepU (v : Nat → Nat → Int) (M : Ms) : Prop := Rsc v M ∧ Rpm v M.2.1 ∧ (∀ c, c < 4 → cmp v M.2.1 M.2.2.1 c) ∧ Rlg v M.2.2.2
theorem RepC.U {v : Nat → Nat → Int} {M : Ms} (h : RepC v M) : RepU v M := ⟨h.1, h.2.1, h.2.2.2.1, h.2.2.2.2⟩
theorem cmp_row {v w : Nat → Nat → Int} {L : List Ar} {C : Nat → Nat → Int} {c : Nat} (h : cmp v L C c) (hr : w (23 + c) = v (23 + c)) : cmp w L C c := by
  unfold cmp
  rw [hr]
  exact h
theorem RepU.sort {v w : Nat → Nat → Int} {M : Ms} (h : RepU v M) (hl : M.2.1.length ≤ 20) (ho : ∀ j, ¬ (2 ≤ j ∧ j < 2 + M.2.1.length) → w j = v j) (hp : (FL w M.2.1.length).Perm (FL v M.2.1.length)) (hs : SRT w M.2.1.length) : RepC w M := by
  obtain ⟨hsc, hpm, hcm, hlg⟩ := h
  refine ⟨hsc.eq (ho 0 (by omega)) (ho 27 (by omega)) (ho 28 (by omega)) rfl rfl, ⟨(hp.map rc7).trans hpm.1, fun i hi => ?_⟩, hs, fun c hc => cmp_row (hcm c hc) (ho _ (by omega)), hlg.eq (ho 28 (by omega)) (ho 29 (by omega))⟩
  have h1 : w (2 + i) ∈ FL v M.2.1.length := hp.mem_iff.mp (FL_at hi)
  obtain ⟨j, hj, he⟩ := FL_mem.mp h1
  rw [← he]
  exact hpm.2 j hj
theorem sp_sortM {G : Mm} {b : Nat} {v : Nat → Nat → Int} {M : Ms} {T K : Int} {Q : dp_Ps} (hc : CV G b v) (hR : RepU v M) (hm : MI M T K)
    (h : ∀ G' v', CV G' b v' → FR b 30 G G' → RepC v' M → Q (jI 0) G') : Sp 19 4 [vR 2 b] G Q :=
  sp_sort hc hR.1.1 hm.2.1 (hR.2.1.NA hm.2.2.1) (hR.2.1.BR hm) (fun G' v' h1 h2 h3 h4 h5 => h G' v' h1 h2 (hR.sort hm.2.1 h3 h4 h5))
theorem rep_off {v : Nat → Nat → Int} {M : Ms} {T K : Int} (h : RepC v M) (hm : MI M T K) {i c : Nat} {r : Nat → Int} (hi : i < M.2.1.length) (h4 : v (2 + i) 4 = (c : Int)) (hc : c < 4) (hs : smr r (v2 v (2 + i) 4 (-1005)) M.2.1.length c (v (23 + c) 3)) :
    RepC (vRow (v2 v (2 + i) 4 (-1005)) (23 + c) r) (mOff M (rc7 (v (2 + i)))) := by
  obtain ⟨hsc, hpm, hsr, hcm, hlg⟩ := h
  have hl20 := hm.2.1
  have hn := hm.2.2.1
  have haL := hpm.at hi
  have ha4 : (rc7 (v (2 + i))) 4 = c := by rw [rc7_k (by decide)]; exact h4
  have hR : ∀ j, j ≠ 23 + c → j ≠ 2 + i → vRow (v2 v (2 + i) 4 (-1005)) (23 + c) r j = v j := fun j h1 h2 => by rw [vRow_n h1, v2_r h2]
  have hri : v2 v (2 + i) 4 (-1005) (2 + i) = aU (v (2 + i)) 4 (-1005) := row_aU
  have hrr : ∀ j, j < M.2.1.length → vRow (v2 v (2 + i) 4 (-1005)) (23 + c) r (2 + j) = v2 v (2 + i) 4 (-1005) (2 + j) := fun j hj => vRow_n (by omega)
  have hp1 : Rpm (v2 v (2 + i) 4 (-1005)) (asg M.2.1 (rc7 (v (2 + i))) (-1005)) := hpm.asg hn hi hri (fun j hj hji => v2_r (by omega))
  have hMI' := mOff_MI hm haL
  have hneg : ¬ (rc7 (v (2 + i))) 4 = -1005 := by omega
  have hn4 : ((rc7 (v (2 + i))) 4).toNat = c := by omega
  have hA' : ∀ a, a ∈ asg M.2.1 (rc7 (v (2 + i))) (-1005) → AI M T K a := AI_asgN hm.2.2.2.1
  unfold mOff
  rw [cIf_f hneg, hn4, ha4]
  refine ⟨hsc.eq (hR 0 (by omega) (by omega)) (hR 27 (by omega) (by omega)) (hR 28 (by omega) (by omega)) asg_len rfl, hp1.eq (fun j hj => hrr j (by rw [asg_len] at hj; exact hj)), ?_, fun d hd => ?_, hlg.eq (hR 28 (by omega) (by omega)) (hR 29 (by omega) (by omega))⟩
  · show SRT _ (asg _ _ _).length
    rw [asg_len]
    refine hsr.eq (fun j hj k hk => ?_)
    rw [hrr j hj, v2_n (fun q => hk q.2)]
  · by_cases hdc : d = c
    · subst hdc
      have hex : (∃ a, a ∈ asg M.2.1 (rc7 (v (2 + i))) (-1005) ∧ a 4 = d) ↔ ∃ j, j < M.2.1.length ∧ v2 v (2 + i) 4 (-1005) (2 + j) 4 = d := by
        constructor
        · rintro ⟨a, ha, h4a⟩
          obtain ⟨j, hj, rfl⟩ := hp1.mem.mp ha
          rw [rc7_k (by decide)] at h4a
          exact ⟨j, by rw [asg_len] at hj; exact hj, h4a⟩
        · rintro ⟨j, hj, h4a⟩
          exact ⟨_, hp1.at (by rw [asg_len]; exact hj), by rw [rc7_k (by decide)]; exact h4a⟩
      have hex0 : ∃ a, a ∈ M.2.1 ∧ a 4 = d := ⟨_, haL, ha4⟩
      obtain ⟨-, -, g3, -⟩ := (hcm d hd).1 hex0
      refine ⟨fun q => ?_, fun q k hk => ?_⟩
      · obtain ⟨s0, s1, s3, s4, ⟨x, hx, hx4, hx1⟩, ⟨y, hy, hy4, hy1⟩⟩ := hs.1 (hex.mp q)
        have hmx : mxT (asg M.2.1 (rc7 (v (2 + i))) (-1005)) d = r 2 := by
          obtain ⟨z, hz, hz4, hz1⟩ := mxT_at (fun a ha => (hA' a ha).2.1.1) q
          have k1 := (mxT_ge (L := asg M.2.1 (rc7 (v (2 + i))) (-1005)) (c := (d : Int))).2 _ (hp1.at (i := y) (by rw [asg_len]; exact hy)) (by rw [rc7_k (by decide)]; exact hy4)
          obtain ⟨j, hj, rfl⟩ := hp1.mem.mp hz
          rw [rc7_k (by decide)] at hz4 hz1 k1
          have k2 := (s4 j (by rw [asg_len] at hj; exact hj) hz4).2
          omega
        refine ⟨?_, ?_, ?_, fun a ha h4a => ?_, ?_⟩
        · rw [vRow_s, s0, ← hp1.1.countP_eq, List.countP_map, asg_len]
          congr 1
        · show _ = cU _ d _ _ d 0
          rw [vRow_s, cU_s0, hmx]
        · show _ = cU _ d _ _ d 1
          rw [vRow_s, cU_s1, hmx, s3, g3, cIf_f]
          have := hp1.at (i := y) (by rw [asg_len]; exact hy)
          have := (hA' _ this).2.1.1
          rw [rc7_k (by decide)] at this
          omega
        · rw [vRow_s]
          obtain ⟨j, hj, rfl⟩ := hp1.mem.mp ha
          rw [rc7_k (by decide)] at h4a ⊢
          exact (s4 j (by rw [asg_len] at hj; exact hj) h4a).1
        · rw [vRow_s]
          exact ⟨_, hp1.at (by rw [asg_len]; exact hx), by rw [rc7_k (by decide)]; exact hx4, by rw [rc7_k (by decide)]; exact hx1⟩
      · rw [vRow_s]
        refine hs.2 (fun j hj h4j => ?_) k hk
        obtain ⟨a, ha, h4a⟩ := hex.mpr ⟨j, hj, h4j⟩
        exact q a ha h4a
    · exact cmp_o (hcm d hd) (hR _ (by omega) (by omega)) (cU_n hdc) (fun x => asg_at hn haL (by omega) (by omega) x) (cnt_asg_o (by omega) hn haL (by omega))
/-- takeOff: the alarm's place stays -/
theorem sp_takeOffM {G : Mm} {b i : Nat} {v : Nat → Nat → Int} {M : Ms} {T K : Int} {Q : dp_Ps} (hc : CV G b v) (hR : RepC v M) (hm : MI M T K) (hi : i < M.2.1.length)
    (h : ∀ G' v', CV G' b v' → FR b 30 G G' → G'.2 = G.2 → RepC v' (mOff M (rc7 (v (2 + i)))) → v' (2 + i) = aU (v (2 + i)) 4 (-1005) → Q (jI 0) G') : Sp 28 5 [vR 2 b, vR 0 (G.2 (b + 1) i)] G Q := by
  have hs := hm.1
  unfold SI at hs
  have hl20 := hm.2.1
  have hav := AI_v (hR.2.1.AI hm.2.2.2.1 hi)
  refine sp_takeOff hc hR.1.1 hl20 hi (hR.2.1.r4 hm) (fun j hj => (hR.2.1.BR hm j hj).2.1) (by omega) (fun h4 => ?_) (fun c h4 hc4 G' r k1 k2 k3 k4 => ?_)
  · refine h G v hc FR.rf rfl ?_ ?_
    · unfold mOff
      rw [cIf_t (by rw [rc7_k (by decide)]; exact h4)]
      exact hR
    · rw [← h4, aU_id]
  · refine h G' _ k1 k2 k3 (rep_off hR hm hi h4 hc4 k4) ?_
    rw [vRow_n (by omega)]
    exact row_aU
-- an alarm is removed
def mRem (M : Ms) (a : Ar) : Ms := (M.1, M.2.1.filter (fun b => decide (b 0 ≠ a 0)), M.2.2.1, M.2.2.2)
theorem flt_len {L : List Ar} {a : Ar} (hn : NI L) (ha : a ∈ L) : (L.filter (fun b => decide (b 0 ≠ a 0))).length + 1 = L.length := by
  induction L with
  | nil => cases ha
  | cons x L ih =>
    have hn' := List.pairwise_cons.mp hn
    by_cases hx : x 0 = a 0
    · have hxa : x = a := hn.inj List.mem_cons_self ha hx
      subst hxa
      have e : L.filter (fun b => decide (b 0 ≠ x 0)) = L := List.filter_eq_self.mpr (fun b hb => by simp [Ne.symm (hn'.1 b hb)])
      rw [List.filter_cons_of_neg (by simp), e, List.length_cons]
    · have hxa : a ∈ L := by
        rcases List.mem_cons.mp ha with q | q
        · rw [q] at hx; exact absurd rfl hx
        · exact q
      rw [List.filter_cons_of_pos (by simp [hx]), List.length_cons, List.length_cons, ih hn'.2 hxa]
theorem mRem_MI {M : Ms} {T K : Int} {a : Ar} (h : MI M T K) (ha : ∀ b, b ∈ M.2.1 → b 0 = a 0 → b 4 = -1005) : MI (mRem M a) T K := by
  obtain ⟨hs, hl, hn, hA, hC⟩ := h
  refine ⟨hs, Nat.le_trans (List.length_filter_le _ _) hl, List.Pairwise.filter _ hn, fun b hb => hA b (List.mem_filter.mp hb).1, fun c hc => CI_same (hC c hc) rfl (fun x => ⟨fun q => ⟨(List.mem_filter.mp q.1).1, q.2⟩, fun q => ⟨List.mem_filter.mpr ⟨q.1, ?_⟩, q.2⟩⟩)⟩
  have : x 0 ≠ a 0 := fun e => by have := ha x q.1 e; omega
  simp [this]
theorem map_perm {α : Type} {f g : Nat → α} {n : Nat} {s : Nat → Nat} (h1 : ∀ i, i < n → s i < n) (h2 : ∀ i j, i < n → j < n → s i = s j → i = j) (h : ∀ i, i < n → g i = f (s i)) : ((List.range n).map g).Perm ((List.range n).map f) := by
  have e : (List.range n).map g = ((List.range n).map s).map f := by
    rw [List.map_map]
    apply List.map_congr_left
    intro i hi
    exact h i (List.mem_range.mp hi)
  rw [e]
  exact (perm_of_inj h1 h2).map _
theorem vRem_a {v : Nat → Nat → Int} {n p i : Nat} (hi : i < n - 1) : vRem v n p (2 + i) = if i < p then v (2 + i) else v (2 + (i + 1)) := by
  unfold vRem
  rw [if_neg (by omega)]
  by_cases h : i < p
  · rw [if_neg (by omega), if_neg (by omega), if_pos h]
  · rw [if_pos (by omega), if_neg h]
    rfl
theorem vRem_o {v : Nat → Nat → Int} {n p j : Nat} (hn : 0 < n) (h0 : j ≠ 0) (hj : 2 + n ≤ j) : vRem v n p j = v j := by
  unfold vRem
  rw [if_neg h0, if_neg (by omega)]
  rw [if_neg (by omega)]
/-- the rows without that at place p -/
theorem FL_rem {v w : Nat → Nat → Int} {n p : Nat} (hp : p < n) (hw : ∀ i, i < n - 1 → w (2 + i) = if i < p then v (2 + i) else v (2 + (i + 1))) : (FL v n).Perm (v (2 + p) :: FL w (n - 1)) := by
  have e : v (2 + p) :: FL w (n - 1) = (List.range n).map (fun i => if i = 0 then v (2 + p) else w (2 + (i - 1))) := by
    obtain ⟨m, rfl⟩ : ∃ m, n = m + 1 := ⟨n - 1, by omega⟩
    rw [List.range_succ_eq_map]
    show _ = (if 0 = 0 then v (2 + p) else w (2 + (0 - 1))) :: List.map _ (List.map Nat.succ (List.range m))
    rw [if_pos rfl, List.map_map]
    rfl
  rw [e]
  refine (map_perm (s := fun i => if i = 0 then p else if i - 1 < p then i - 1 else i) (fun i hi => ?_) (fun i j hi hj he => ?_) (fun i hi => ?_)).symm
  · show (if i = 0 then p else if i - 1 < p then i - 1 else i) < n
    split
    · exact hp
    · split <;> omega
  · by_cases h1 : i = 0
    · rw [if_pos h1] at he
      by_cases h2 : j = 0
      · omega
      · rw [if_neg h2] at he
        split at he <;> omega
    · rw [if_neg h1] at he
      by_cases h2 : j = 0
      · rw [if_pos h2] at he
        split at he <;> omega
      · rw [if_neg h2] at he
        split at he <;> split at he <;> omega
  · by_cases h1 : i = 0
    · rw [if_pos h1, if_pos h1]
    · rw [if_neg h1, if_neg h1, hw (i - 1) (by omega)]
      by_cases h2 : i - 1 < p
      · rw [if_pos h2, if_pos h2]
      · rw [if_neg h2, if_neg h2, show i - 1 + 1 = i by omega]
theorem rep_rem {v : Nat → Nat → Int} {M : Ms} {T K : Int} (h : RepC v M) (hm : MI M T K) {p : Nat} (hp : p < M.2.1.length) (h4 : v (2 + p) 4 = -1005) : RepC (vRem v M.2.1.length p) (mRem M (rc7 (v (2 + p)))) := by
  obtain ⟨hsc, hpm, hsr, hcm, hlg⟩ := h
  have hl20 := hm.2.1
  have hn := hm.2.2.1
  have haL := hpm.at hp
  have hlen : (mRem M (rc7 (v (2 + p)))).2.1.length = M.2.1.length - 1 := by
    have := flt_len hn haL
    show (M.2.1.filter _).length = _
    omega
  have hf := FL_rem (w := vRem v M.2.1.length p) hp (fun i hi => vRem_a hi)
  have hna := hpm.NA hn
  have h27 : vRem v M.2.1.length p 27 = v 27 := vRem_o (by omega) (by omega) (by omega)
  have h28 : vRem v M.2.1.length p 28 = v 28 := vRem_o (by omega) (by omega) (by omega)
  have h29 : vRem v M.2.1.length p 29 = v 29 := vRem_o (by omega) (by omega) (by omega)
  refine ⟨⟨?_, fun k hk hk5 => ?_, fun k hk => by rw [h27]; exact hsc.2.2.1 k hk, by rw [h28]; exact hsc.2.2.2⟩, ⟨?_, fun i hi => ?_⟩, ?_, fun c hc => ?_, hlg.eq h28 h29⟩
  · rw [hlen]
    show (if 5 = 5 then ((M.2.1.length : Nat) : Int) - 1 else v 0 5) = _
    rw [if_pos rfl]; omega
  · show (if k = 5 then ((M.2.1.length : Nat) : Int) - 1 else v 0 k) = _
    rw [if_neg hk5]; exact hsc.2.1 k hk hk5
  · rw [hlen]
    have h1 := ((hf.map rc7).symm.trans hpm.1).filter (fun b => decide (b 0 ≠ (rc7 (v (2 + p))) 0))
    rw [List.map_cons, List.filter_cons_of_neg (by simp)] at h1
    have e : ((FL (vRem v M.2.1.length p) (M.2.1.length - 1)).map rc7).filter (fun b => decide (b 0 ≠ (rc7 (v (2 + p))) 0)) = (FL (vRem v M.2.1.length p) (M.2.1.length - 1)).map rc7 := by
      refine List.filter_eq_self.mpr (fun b hb => ?_)
      obtain ⟨x, hx, rfl⟩ := List.mem_map.mp hb
      obtain ⟨i, hi, rfl⟩ := FL_mem.mp hx
      have : rc7 (vRem v M.2.1.length p (2 + i)) 0 ≠ rc7 (v (2 + p)) 0 := by
        rw [rc7_k (by decide), rc7_k (by decide), vRem_a hi]
        intro q
        split at q
        · have := hna i p (by omega) hp q; omega
        · have := hna (i + 1) p (by omega) hp q; omega
      simp only [decide_eq_true_eq]
      exact this
    rw [e] at h1
    exact h1
  · rw [hlen] at hi
    rw [vRem_a hi]
    split
    · exact hpm.2 i (by omega)
    · exact hpm.2 (i + 1) (by omega)
  · rw [hlen]
    intro i j hij hj
    rw [vRem_a (by omega), vRem_a hj]
    split
    · split
      · exact hsr i j hij (by omega)
      · exact hsr i (j + 1) (by omega) (by omega)
    · split
      · omega
      · exact hsr (i + 1) (j + 1) (by omega) (by omega)
  · refine cmp_o (hcm c hc) (vRem_o (by omega) (by omega) (by omega)) rfl (fun x => ⟨fun q => ⟨(List.mem_filter.mp q.1).1, q.2⟩, fun q => ⟨List.mem_filter.mpr ⟨q.1, ?_⟩, q.2⟩⟩) ?_
    · have : x 0 ≠ (rc7 (v (2 + p))) 0 := fun e => by
        have e := hn.inj q.1 haL e
        rw [e, rc7_k (by decide)] at q
        omega
      simp only [decide_eq_true_eq]
      exact this
    · show ((M.2.1.filter _).countP _) = _
      rw [List.countP_filter]
      apply List.countP_congr
      intro x hx
      simp only [Bool.and_eq_true, decide_eq_true_eq]
      refine ⟨fun q => q.1, fun q => ⟨q, fun e => ?_⟩⟩
      have e := hn.inj hx haL e
      rw [e, rc7_k (by decide)] at q
      omega
theorem sp_removeM {G : Mm} {b p : Nat} {v : Nat → Nat → Int} {M : Ms} {T K : Int} {Q : dp_Ps} (hc : CV G b v) (hR : RepC v M) (hm : MI M T K) (hp : p < M.2.1.length) (h4 : v (2 + p) 4 = -1005)
    (h : ∀ G' v', CV G' b v' → FR b 30 G G' → RepC v' (mRem M (rc7 (v (2 + p)))) → Q (jI 0) G') : Sp 20 4 [vR 2 b, vI (jI (p : Int))] G Q :=
  sp_remove hc hR.1.1 hm.2.1 hp (fun G' h1 h2 => h G' _ h1 h2 (rep_rem hR hm hp h4))
/-- cancel -/
noncomputable def mCan (M : Ms) (a : Ar) : Ms := mSh (mRem (mOff M a) a)
theorem mRem_0 {M : Ms} {a a' : Ar} (h : a 0 = a' 0) : mRem M a = mRem M a' := by unfold mRem; rw [h]
theorem mOff_n4 {M : Ms} {T K : Int} {a : Ar} (hm : MI M T K) (ha : a ∈ M.2.1) : ∀ b, b ∈ (mOff M a).2.1 → b 0 = a 0 → b 4 = -1005 := by
  intro b hb h0
  unfold mOff at hb
  by_cases h4 : a 4 = -1005
  · rw [cIf_t h4] at hb
    rw [hm.2.2.1.inj hb ha h0]; exact h4
  · rw [cIf_f h4] at hb
    obtain ⟨d, hd, hk, g⟩ := asg_in hb
    rcases g with ⟨-, g⟩ | ⟨g, g2⟩
    · rw [g, aU_s]
    · rw [g2] at h0; exact absurd h0 g
theorem sp_cancelA {G : Mm} {b p : Nat} {v : Nat → Nat → Int} {M : Ms} {T K : Int} {Q : dp_Ps} (hc : CV G b v) (hR : RepC v M) (hm : MI M T K) (hp : p < M.2.1.length)
    (h : ∀ G' v', CV G' b v' → FR b 30 G G' → RepC v' (mCan M (rc7 (v (2 + p)))) → MI (mCan M (rc7 (v (2 + p)))) T K → stk (mCan M (rc7 (v (2 + p)))) → Q (jI 0) G') : Sp 17 2 [vR 2 b, vI (jI (p : Int))] G Q := by
  have hl20 := hm.2.1
  have haL := hR.2.1.at hp
  apply vcX2_cancelAlarm
  refine ⟨jI_in (by omega) (by omega) (by omega), ?_⟩
  rw [hc.r8, jI_cln (by omega)]
  refine sp_takeOffM hc hR hm hp (fun G1 v1 k1 k2 k3 k4 k5 => ?_)
  have hm1 := mOff_MI hm haL
  have hl1 : (mOff M (rc7 (v (2 + p)))).2.1.length = M.2.1.length := by
    unfold mOff
    by_cases h4 : rc7 (v (2 + p)) 4 = -1005
    · rw [cIf_t h4]
    · rw [cIf_f h4]; exact asg_len
  have e0 : rc7 (v1 (2 + p)) 0 = rc7 (v (2 + p)) 0 := by rw [k5, rc7_k (by decide), rc7_k (by decide), aU_n (by decide)]
  refine sp_removeM k1 k4 hm1 (by rw [hl1]; exact hp) (by rw [k5, aU_s]) (fun G2 v2' k6 k7 k8 => ?_)
  rw [mRem_0 e0] at k8
  have hm2 := mRem_MI (a := rc7 (v (2 + p))) hm1 (mOff_n4 hm haL)
  refine sp_share k6 k8 hm2 (fun G3 v3 M' k9 k10 k11 k12 k13 => ?_)
  have e : mCan M (rc7 (v (2 + p))) = M' := mSh_eq k11
  refine h G3 v3 k9 ((k2.tr k7).tr k10) (by rw [e]; exact k12) (by rw [e]; exact k13) (by rw [e]; obtain ⟨_, -, hs⟩ := k11; exact hs)

