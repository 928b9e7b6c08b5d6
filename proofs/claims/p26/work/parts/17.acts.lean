/-! ===== alarms are taken off, removed, moved, added; comparers come and go ===== -/
noncomputable def cIf {α : Type} (p : Prop) (a b : α) : α := @ite α p (Classical.propDecidable p) a b
theorem cIf_t {α : Type} {p : Prop} {a b : α} (h : p) : cIf p a b = a := by unfold cIf; exact @if_pos p (Classical.propDecidable p) h α a b
theorem cIf_f {α : Type} {p : Prop} {a b : α} (h : ¬ p) : cIf p a b = b := by unfold cIf; exact @if_neg p (Classical.propDecidable p) h α a b
/-- the greatest time of the alarms of c; -1005 if there is none -/
def mxT : List Ar → Int → Int
  | [], _ => -1005
  | a :: L, c => if a 4 = c then max (a 1) (mxT L c) else mxT L c
theorem mxT_ge : ∀ {L : List Ar} {c : Int}, -1005 ≤ mxT L c ∧ ∀ a, a ∈ L → a 4 = c → a 1 ≤ mxT L c
  | [], _ => ⟨by unfold mxT; omega, fun a h => by cases h⟩
  | x :: L, c => by
    obtain ⟨h1, h2⟩ := mxT_ge (L := L) (c := c)
    unfold mxT
    by_cases hx : x 4 = c
    · rw [if_pos hx]
      refine ⟨by omega, fun a ha h4 => ?_⟩
      rcases List.mem_cons.mp ha with q | q
      · rw [q]; omega
      · have := h2 a q h4; omega
    · rw [if_neg hx]
      refine ⟨h1, fun a ha h4 => ?_⟩
      rcases List.mem_cons.mp ha with q | q
      · rw [q] at h4; exact absurd h4 hx
      · exact h2 a q h4
theorem mxT_at : ∀ {L : List Ar} {c : Int}, (∀ a, a ∈ L → 0 ≤ a 1) → (∃ a, a ∈ L ∧ a 4 = c) → ∃ a, a ∈ L ∧ a 4 = c ∧ a 1 = mxT L c
  | [], _, _, h => by obtain ⟨a, h, -⟩ := h; cases h
  | x :: L, c, h0, h => by
    unfold mxT
    have h0' : ∀ a, a ∈ L → 0 ≤ a 1 := fun a ha => h0 a (List.mem_cons_of_mem _ ha)
    by_cases hx : x 4 = c
    · rw [if_pos hx]
      by_cases hm : mxT L c ≤ x 1
      · exact ⟨x, List.mem_cons_self, hx, by omega⟩
      · by_cases he : ∃ a, a ∈ L ∧ a 4 = c
        · obtain ⟨a, ha, h4, h1⟩ := mxT_at h0' he
          exact ⟨a, List.mem_cons_of_mem _ ha, h4, by omega⟩
        · have : mxT L c = -1005 := mxT_no (fun a ha h4 => he ⟨a, ha, h4⟩)
          have := h0 x List.mem_cons_self
          omega
    · rw [if_neg hx]
      obtain ⟨a, ha, h4⟩ := h
      rcases List.mem_cons.mp ha with q | q
      · rw [q] at h4; exact absurd h4 hx
      · obtain ⟨a, ha, h4, h1⟩ := mxT_at h0' ⟨a, q, h4⟩
        exact ⟨a, List.mem_cons_of_mem _ ha, h4, h1⟩
where
  mxT_no : ∀ {L : List Ar} {c : Int}, (∀ a, a ∈ L → a 4 ≠ c) → mxT L c = -1005
  | [], _, _ => rfl
  | x :: L, c, h => by
    unfold mxT
    rw [if_neg (h x List.mem_cons_self)]
    exact mxT_no (fun a ha => h a (List.mem_cons_of_mem _ ha))
theorem mxT_no {L : List Ar} {c : Int} (h : ∀ a, a ∈ L → a 4 ≠ c) : mxT L c = -1005 := mxT_at.mxT_no h
/-- an alarm is taken off its comparer -/
noncomputable def mOff (M : Ms) (a : Ar) : Ms := cIf (a 4 = -1005) M (M.1, asg M.2.1 a (-1005), cU M.2.2.1 (a 4).toNat (mxT (asg M.2.1 a (-1005)) (a 4)) (cIf (mxT (asg M.2.1 a (-1005)) (a 4) = -1005) 0 (M.2.2.1 (a 4).toNat 1)), M.2.2.2)
theorem CI_o {M M' : Ms} {d : Nat} (h : CI M d) (hC : M'.2.2.1 d = M.2.2.1 d) (hk : ∀ x : Ar, (x ∈ M'.2.1 ∧ x 4 = d) ↔ (∃ y, y ∈ M.2.1 ∧ y 4 = d ∧ x 1 = y 1 ∧ (x ∈ M'.2.1 ∧ x 4 = d))) (hk2 : ∀ y : Ar, y ∈ M.2.1 → y 4 = d → ∃ x, x ∈ M'.2.1 ∧ x 4 = d ∧ x 1 = y 1) : CI M' d := by
  unfold CI
  rw [hC]
  refine ⟨fun q => ?_, fun q => h.2 (fun y hy h4 => by obtain ⟨x, hx, hx4, -⟩ := hk2 y hy h4; exact q x hx hx4)⟩
  obtain ⟨x, hx⟩ := q
  obtain ⟨y, hy, hy4, -⟩ := (hk x).mp hx
  obtain ⟨g1, ⟨z, hz, hz4, hz1⟩, g3⟩ := h.1 ⟨y, hy, hy4⟩
  refine ⟨fun w hw hw4 => ?_, ?_, g3⟩
  · obtain ⟨y', hy', hy4', e, -⟩ := (hk w).mp ⟨hw, hw4⟩
    rw [e]; exact g1 y' hy' hy4'
  · obtain ⟨x', hx', hx4', e⟩ := hk2 z hz hz4
    exact ⟨x', hx', hx4', by rw [e]; exact hz1⟩
theorem CI_same {M M' : Ms} {d : Nat} (h : CI M d) (hC : M'.2.2.1 d = M.2.2.1 d) (hk : ∀ x : Ar, (x ∈ M'.2.1 ∧ x 4 = d) ↔ (x ∈ M.2.1 ∧ x 4 = d)) : CI M' d :=
  CI_o h hC (fun x => ⟨fun q => ⟨x, ((hk x).mp q).1, ((hk x).mp q).2, rfl, q⟩, fun q => by obtain ⟨y, -, -, -, q⟩ := q; exact q⟩) (fun y hy h4 => ⟨y, ((hk y).mpr ⟨hy, h4⟩).1, h4, rfl⟩)
theorem AI_asgN {M : Ms} {T K : Int} {L : List Ar} {a : Ar} (h : ∀ a, a ∈ L → AI M T K a) : ∀ b, b ∈ asg L a (-1005) → AI M T K b := by
  intro b hb
  obtain ⟨d, hd, hk, h4⟩ := asg_in hb
  obtain ⟨a0, a1, a2, a3, a4, a5, a6, a7⟩ := h d hd
  refine ⟨by rw [hk 0 (by decide)]; exact a0, by rw [hk 1 (by decide)]; exact a1, by rw [hk 2 (by decide)]; exact a2, by rw [hk 3 (by decide)]; exact a3, ?_, by rw [hk 5 (by decide)]; exact a5, by rw [hk 6 (by decide)]; exact a6, fun k hk7 => by rw [hk k (by omega)]; exact a7 k hk7⟩
  rcases h4 with ⟨-, h4⟩ | ⟨-, h4⟩
  · rw [h4, aU_s]; exact Or.inl rfl
  · rw [h4]; exact a4
theorem mOff_MI {M : Ms} {T K : Int} {a : Ar} (h : MI M T K) (ha : a ∈ M.2.1) : MI (mOff M a) T K := by
  unfold mOff
  by_cases h4 : a 4 = -1005
  · rw [cIf_t h4]; exact h
  · rw [cIf_f h4]
    obtain ⟨hs, hl, hn, hA, hC⟩ := h
    have hc := (hA a ha).2.2.2.2.1
    have h7 := hs.2.2.2.2.2.2.1
    have hAN := AI_asgN (a := a) hA
    refine ⟨hs, by rw [asg_len]; exact hl, asg_NI hn, hAN, fun d hd => ?_⟩
    by_cases hdc : d = (a 4).toNat
    · have hda : (d : Int) = a 4 := by omega
      have h0 : ∀ b, b ∈ asg M.2.1 a (-1005) → 0 ≤ b 1 := fun b hb => (hAN b hb).2.1.1
      have hc1 := ((hC d hd).1 ⟨a, ha, hda.symm⟩).2.2
      subst hdc
      refine ⟨fun q => ⟨fun x hx hx4 => ?_, ?_, ?_⟩, fun q => ?_⟩
      · show x 1 ≤ cU _ _ _ _ _ 0
        rw [cU_s0, ← hda]; exact mxT_ge.2 x hx hx4
      · show ∃ x, x ∈ asg M.2.1 a (-1005) ∧ x 4 = _ ∧ x 1 = cU _ _ _ _ _ 0
        rw [cU_s0, ← hda]; exact mxT_at h0 q
      · show 0 ≤ cU _ _ _ _ _ 1 ∧ cU _ _ _ _ _ 1 ≤ 9
        rw [cU_s1]
        by_cases hz : mxT (asg M.2.1 a (-1005)) (a 4) = -1005
        · rw [cIf_t hz]; omega
        · rw [cIf_f hz]; exact hc1
      · show cU _ _ _ _ _ 0 = _ ∧ cU _ _ _ _ _ 1 = _
        have hz : mxT (asg M.2.1 a (-1005)) (a 4) = -1005 := by rw [← hda]; exact mxT_no q
        rw [cU_s0, cU_s1, cIf_t hz]
        exact ⟨hz, rfl⟩
    · exact CI_same (hC d hd) (cU_n hdc) (fun x => asg_at hn ha (by omega) (by omega) x)
-- the class: takeOff
def vRow (v : Nat → Nat → Int) (j : Nat) (r : Nat → Int) : Nat → Nat → Int := fun m => if m = j then r else v m
theorem vRow_s {v : Nat → Nat → Int} {j : Nat} {r : Nat → Int} : vRow v j r j = r := by unfold vRow; rw [if_pos rfl]
theorem vRow_n {v : Nat → Nat → Int} {j : Nat} {r : Nat → Int} {m : Nat} (h : m ≠ j) : vRow v j r m = v m := by unfold vRow; rw [if_neg h]
/-- a comparer's row says how many, the least and the greatest of the first j alarms that are at c -/
def smr (r : Nat → Int) (v : Nat → Nat → Int) (j : Nat) (c t : Int) : Prop :=
  ((∃ i, i < j ∧ v (2 + i) 4 = c) → r 0 = (((FL v j).countP (fun a => decide (a 4 = c)) : Nat) : Int) ∧ 0 < r 0 ∧ r 3 = t ∧ (∀ i, i < j → v (2 + i) 4 = c → r 1 ≤ v (2 + i) 1 ∧ v (2 + i) 1 ≤ r 2) ∧ (∃ i, i < j ∧ v (2 + i) 4 = c ∧ v (2 + i) 1 = r 1) ∧ (∃ i, i < j ∧ v (2 + i) 4 = c ∧ v (2 + i) 1 = r 2)) ∧
  ((∀ i, i < j → v (2 + i) 4 ≠ c) → ∀ k, k < 4 → r k = 0)
theorem FL_succ (v : Nat → Nat → Int) (n : Nat) : FL v (n + 1) = FL v n ++ [v (2 + n)] := by
  unfold FL
  rw [List.range_succ, List.map_append]
  rfl
theorem smr_skip {r : Nat → Int} {v : Nat → Nat → Int} {j : Nat} {c t : Int} (h : smr r v j c t) (hj : v (2 + j) 4 ≠ c) : smr r v (j + 1) c t := by
  have key : ∀ i, i < j + 1 → v (2 + i) 4 = c → i < j := fun i hi h4 => by
    rcases (show i < j ∨ i = j by omega) with q | q
    · exact q
    · rw [q] at h4; exact absurd h4 hj
  refine ⟨fun q => ?_, fun q => h.2 (fun i hi => q i (by omega))⟩
  obtain ⟨i, hi, h4⟩ := q
  obtain ⟨g0, g1, g2, g3, ⟨x, hx, hx4, hx1⟩, ⟨y, hy, hy4, hy1⟩⟩ := h.1 ⟨i, key i hi h4, h4⟩
  refine ⟨?_, g1, g2, fun i hi h4 => g3 i (key i hi h4) h4, ⟨x, by omega, hx4, hx1⟩, ⟨y, by omega, hy4, hy1⟩⟩
  rw [FL_succ, List.countP_append, List.countP_singleton]
  simp [hj, g0]
theorem smr_step {r r' : Nat → Int} {v : Nat → Nat → Int} {j : Nat} {c t : Int} (h : smr r v j c t) (hj : v (2 + j) 4 = c) (r0 : r' 0 = r 0 + 1) (r1 : r' 1 = if r 0 = 0 then v (2 + j) 1 else min (r 1) (v (2 + j) 1)) (r2 : r' 2 = if r 0 = 0 then v (2 + j) 1 else max (r 2) (v (2 + j) 1)) (r3 : r' 3 = t) : smr r' v (j + 1) c t := by
  have hcnt : ((FL v (j + 1)).countP (fun a => decide (a 4 = c)) : Nat) = (FL v j).countP (fun a => decide (a 4 = c)) + 1 := by
    rw [FL_succ, List.countP_append, List.countP_singleton]
    simp [hj]
  refine ⟨fun _ => ?_, fun q => absurd hj (q j (by omega))⟩
  by_cases he : ∃ i, i < j ∧ v (2 + i) 4 = c
  · obtain ⟨g0, g1, g2, g3, ⟨x, hx, hx4, hx1⟩, ⟨y, hy, hy4, hy1⟩⟩ := h.1 he
    rw [if_neg (by omega)] at r1 r2
    refine ⟨by rw [r0, hcnt]; omega, by omega, r3, fun i hi h4 => ?_, ?_, ?_⟩
    · rcases (show i < j ∨ i = j by omega) with q | q
      · have := g3 i q h4; omega
      · rw [q]; omega
    · by_cases hm : v (2 + j) 1 ≤ r 1
      · exact ⟨j, by omega, hj, by omega⟩
      · exact ⟨x, by omega, hx4, by omega⟩
    · by_cases hm : r 2 ≤ v (2 + j) 1
      · exact ⟨j, by omega, hj, by omega⟩
      · exact ⟨y, by omega, hy4, by omega⟩
  · have hno : ∀ i, i < j → v (2 + i) 4 ≠ c := fun i hi h4 => he ⟨i, hi, h4⟩
    have hz := h.2 hno 0 (by decide)
    rw [if_pos hz] at r1 r2
    have hc0 : (FL v j).countP (fun a => decide (a 4 = c)) = 0 := List.countP_eq_zero.mpr (fun a ha => by
      obtain ⟨i, hi, rfl⟩ := FL_mem.mp ha
      simp [hno i hi])
    refine ⟨by rw [r0, hcnt]; omega, by omega, r3, fun i hi h4 => ?_, ⟨j, by omega, hj, by omega⟩, ⟨j, by omega, hj, by omega⟩⟩
    rcases (show i < j ∨ i = j by omega) with q | q
    · exact absurd h4 (hno i q)
    · rw [q]; omega
theorem sp_takeOff {G : Mm} {b i n : Nat} {v : Nat → Nat → Int} {Q : dp_Ps} (hc : CV G b v) (hn : v 0 5 = (n : Int)) (hn20 : n ≤ 20) (hi : i < n) (hr4 : ∀ i, i < n → inR (v (2 + i) 4)) (hr1 : ∀ i, i < n → inR (v (2 + i) 1)) (h4 : v (2 + i) 4 = -1005 ∨ (0 ≤ v (2 + i) 4 ∧ v (2 + i) 4 < 4))
    (h1 : v (2 + i) 4 = -1005 → Q (jI 0) G)
    (h2 : ∀ c : Nat, v (2 + i) 4 = c → c < 4 → ∀ G' r, CV G' b (vRow (v2 v (2 + i) 4 (-1005)) (23 + c) r) → FR b 30 G G' → G'.2 = G.2 → smr r (v2 v (2 + i) 4 (-1005)) n c (v (23 + c) 3) → Q (jI 0) G') : Sp 28 5 [vR 2 b, vR 0 (G.2 (b + 1) i)] G Q := by
  have hra := hc.ra (show i < 20 by omega)
  apply vcX2_takeOff
  rw [hc.al (by omega), jI_lt (hr4 i hi) (inR_s (by omega) (by omega)), jI_lt (hr4 i hi) (inR_s (by omega) (by omega))]
  refine ⟨fun q => h1 (by omega), fun q => ⟨fun _ => ?_, fun q2 => by omega⟩⟩
  obtain ⟨c, hcc⟩ := Int.eq_ofNat_of_zero_le (show 0 ≤ v (2 + i) 4 by omega)
  have hc4 : c < 4 := by omega
  have h2 := h2 c hcc hc4
  rw [hcc]
  rintro _ rfl
  have k1 := hc.wal (show i < 20 by omega) 4 (-1005)
  rw [k1.r9, jI_cln (by omega), k1.rc hc4, k1.co hc4, v2_n (by omega)]
  refine ⟨jI_in (by omega) (by omega) (by omega), jI_in (by omega) (by omega) (by omega), ?_⟩
  refine sp_release k1 hc4 (fun G1 g1 g2 g3 => ?_)
  have key : ∀ m j : Nat, ∀ (G2 : Mm) (r : Nat → Int) (w1 : Option Vl), n - j < m → j ≤ n → CV G2 b (vRow (v2 v (2 + i) 4 (-1005)) (23 + c) r) → FR b 30 G G2 → G2.2 = G.2 → smr r (v2 v (2 + i) 4 (-1005)) j c (v (23 + c) 3) → (inR (r 0) ∧ r 0 ≤ j) → inR (r 1) → inR (r 2) →
      Wp 28 44 [some (vR 2 b), w1, some (vI (jI (c : Int))), some (vI (jI (v (23 + c) 3))), some (vI (jI (j : Int)))] [] G2 Q := by
    intro m
    induction m with
    | zero => intro j G2 r w1 hm; omega
    | succ m ih =>
      intro j G2 r w1 hm hj hc2 hf2 hg2 hs hr0 hr1' hr2
      have e5 : vRow (v2 v (2 + i) 4 (-1005)) (23 + c) r 0 5 = (n : Int) := by rw [vRow_n (by omega), v2_n (by omega)]; exact hn
      apply vcX2_takeOff_44
      rw [hc2.f, e5, jI_le (inR_n (by omega)) (inR_n (by omega))]
      refine ⟨fun q => ?_, fun q => ⟨jI_in (by omega) (by omega) (by omega), ?_⟩⟩
      · have : j = n := by omega
        rw [this] at hs
        exact h2 G2 r hc2 hf2 hg2 hs
      · have ej : ∀ k, vRow (v2 v (2 + i) 4 (-1005)) (23 + c) r (2 + j) k = v2 v (2 + i) 4 (-1005) (2 + j) k := fun k => by rw [vRow_n (by omega)]
        have i4 : inR (v2 v (2 + i) 4 (-1005) (2 + j) 4) := by
          unfold v2
          split
          · exact inR_s (by omega) (by omega)
          · exact hr4 j (by omega)
        have i1 : inR (v2 v (2 + i) 4 (-1005) (2 + j) 1) := by
          rw [v2_n (by omega)]; exact hr1 j (by omega)
        rw [hc2.r8, jI_cln (by omega), hc2.al (by omega), hc2.al (by omega), ej, ej, jI_inj i4 (inR_n (by omega)), hc2.r9, jI_cln (by omega), hc2.rc hc4, jI_s]
        refine ⟨fun q2 => ⟨jI_in (by omega) (by omega) (by omega), jI_in (by omega) (by omega) (by omega), ?_⟩, fun q2 => ih (j + 1) G2 r w1 (by omega) (by omega) hc2 hf2 hg2 (smr_skip hs q2) ⟨hr0.1, by omega⟩ hr1' hr2⟩
        have er : vRow (v2 v (2 + i) 4 (-1005)) (23 + c) r (23 + c) = r := vRow_s
        refine sp_join hc2 hc4 (by rw [er]; exact hr0.1) (by rw [er]; exact hr1') (by rw [er]; exact hr2) i1 (fun G3 j1 j2 j3 => ⟨jI_in (by omega) (by omega) (by omega), ?_⟩)
        rintro _ rfl
        rw [j1.r9, j1.rc hc4]
        have j4 := j1.wco hc4 3 (v (23 + c) 3)
        have hge : 0 ≤ r 0 := by
          by_cases he : ∃ x, x < j ∧ v2 v (2 + i) 4 (-1005) (2 + x) 4 = c
          · have := (hs.1 he).2.1; omega
          · have := hs.2 (fun x hx h4 => he ⟨x, hx, h4⟩) 0 (by decide); omega
        refine ih (j + 1) _ (fun k => if k = 0 then r 0 + 1 else if k = 1 then (if r 0 = 0 then v2 v (2 + i) 4 (-1005) (2 + j) 1 else min (r 1) (v2 v (2 + i) 4 (-1005) (2 + j) 1)) else if k = 2 then (if r 0 = 0 then v2 v (2 + i) 4 (-1005) (2 + j) 1 else max (r 2) (v2 v (2 + i) 4 (-1005) (2 + j) 1)) else if k = 3 then v (23 + c) 3 else r k) w1 (by omega) (by omega) (j4.to_eq (fun x hx k => ?_)) (hf2.tr (j2.tr (FR.wI (by omega)))) (j3.trans hg2) (smr_step hs q2 rfl rfl rfl rfl) ⟨⟨by simp only [if_true]; omega, by simp only [if_true]; omega⟩, by simp only [if_true]; omega⟩ ?_ ?_
        · rw [er]
          by_cases hx2 : x = 23 + c
          · subst hx2
            rw [vRow_s]
            by_cases k3 : k = 3
            · rw [k3, v2_s]; rfl
            · rw [v2_n (by omega)]
              by_cases k0 : k = 0
              · rw [k0, v2_s]; rfl
              · rw [v2_n (by omega)]
                by_cases k2 : k = 2
                · rw [k2, v2_s]; rfl
                · rw [v2_n (by omega)]
                  by_cases k1 : k = 1
                  · rw [k1, v2_s]; rfl
                  · rw [v2_n (by omega), er, if_neg k0, if_neg k1, if_neg k2, if_neg k3]
          · rw [v2_n (by omega), v2_n (by omega), v2_n (by omega), v2_n (by omega), vRow_n hx2, vRow_n hx2]
        · show inR (if r 0 = 0 then _ else _)
          unfold inR at *
          split <;> omega
        · show inR (if r 0 = 0 then _ else _)
          unfold inR at *
          split <;> omega
  refine key (n + 1) 0 G1 (fun k => if k < 4 then 0 else v2 v (2 + i) 4 (-1005) (23 + c) k) _ (by omega) (by omega) (g1.to_eq (fun x hx k => ?_)) ((FR.wI (by omega)).tr g2) g3 ⟨fun q => by obtain ⟨x, hx, -⟩ := q; omega, fun _ k hk => if_pos hk⟩ ⟨show inR 0 from inR_s (by omega) (by omega), show (0 : Int) ≤ ((0 : Nat) : Int) by omega⟩ (show inR 0 from inR_s (by omega) (by omega)) (show inR 0 from inR_s (by omega) (by omega))
  by_cases hx2 : x = 23 + c
  · subst hx2
    rw [vRow_s]
    by_cases k3 : k = 3
    · rw [k3, v2_s]; rfl
    · rw [v2_n (by omega)]
      by_cases k2 : k = 2
      · rw [k2, v2_s]; rfl
      · rw [v2_n (by omega)]
        by_cases k1 : k = 1
        · rw [k1, v2_s]; rfl
        · rw [v2_n (by omega)]
          by_cases k0 : k = 0
          · rw [k0, v2_s]; rfl
          · rw [v2_n (by omega), if_neg (by omega)]
  · rw [v2_n (by omega), v2_n (by omega), v2_n (by omega), v2_n (by omega), vRow_n hx2]

