/-! ===== the alarms' row: sorted, one removed ===== -/
/-- the alarms of a chip, by their places -/
def FL (v : Nat → Nat → Int) (n : Nat) : List (Nat → Int) := (List.range n).map (fun i => v (2 + i))
theorem FL_len (v : Nat → Nat → Int) (n : Nat) : (FL v n).length = n := by simp [FL]
theorem FL_mem {v : Nat → Nat → Int} {n : Nat} {a : Nat → Int} : a ∈ FL v n ↔ ∃ i, i < n ∧ v (2 + i) = a := by simp [FL]
theorem FL_at {v : Nat → Nat → Int} {n i : Nat} (h : i < n) : v (2 + i) ∈ FL v n := FL_mem.mpr ⟨i, h, rfl⟩
theorem FL_eq {v w : Nat → Nat → Int} {n : Nat} (h : ∀ i, i < n → v (2 + i) = w (2 + i)) : FL v n = FL w n := by
  unfold FL
  apply List.map_congr_left
  intro i hi
  exact h i (List.mem_range.mp hi)
theorem perm_of_inj {n : Nat} {s : Nat → Nat} (h1 : ∀ i, i < n → s i < n) (h2 : ∀ i j, i < n → j < n → s i = s j → i = j) : ((List.range n).map s).Perm (List.range n) := by
  have hn : ((List.range n).map s).Nodup := by
    refine List.pairwise_map.mpr ?_
    have := List.nodup_range (n := n)
    refine List.Pairwise.imp_of_mem ?_ this
    intro a b ha hb hab hs
    exact hab (h2 a b (List.mem_range.mp ha) (List.mem_range.mp hb) hs)
  refine (List.perm_ext_iff_of_nodup hn List.nodup_range).mpr (fun a => ?_)
  constructor
  · intro h
    obtain ⟨i, hi, rfl⟩ := List.mem_map.mp h
    exact List.mem_range.mpr (h1 i (List.mem_range.mp hi))
  · intro h
    have ha := List.mem_range.mp h
    obtain ⟨i, hi, he⟩ := fb_onto (n := n) (f := s) h1 (fun i j hij hj he => by have := h2 i j (by omega) hj he; omega) ha
    exact List.mem_map.mpr ⟨i, List.mem_range.mpr hi, he⟩
theorem FL_perm {v w : Nat → Nat → Int} {n : Nat} {s : Nat → Nat} (h1 : ∀ i, i < n → s i < n) (h2 : ∀ i j, i < n → j < n → s i = s j → i = j) (h : ∀ i, i < n → w (2 + i) = v (2 + s i)) : (FL w n).Perm (FL v n) := by
  have e : FL w n = ((List.range n).map s).map (fun i => v (2 + i)) := by
    unfold FL
    rw [List.map_map]
    apply List.map_congr_left
    intro i hi
    exact h i (List.mem_range.mp hi)
  rw [e]
  exact (perm_of_inj h1 h2).map _
theorem bef_tr {a b c : Nat → Int} (h1 : bef a b) (h2 : bef b c) : bef a c := by unfold bef at *; omega
theorem bef_ir {a : Nat → Int} : ¬ bef a a := by unfold bef; omega
theorem bef_or {a b : Nat → Int} (h : a 0 ≠ b 0) : bef a b ∨ bef b a := by unfold bef; omega
theorem bef_as {a b : Nat → Int} (h1 : bef a b) (h2 : bef b a) : False := by unfold bef at *; omega
/-- the alarms' numbers are apart -/
def NA (v : Nat → Nat → Int) (n : Nat) : Prop := ∀ i j, i < n → j < n → v (2 + i) 0 = v (2 + j) 0 → i = j
/-- ranges of what the order looks at -/
def BR (v : Nat → Nat → Int) (n : Nat) : Prop := ∀ i, i < n → inR (v (2 + i) 0) ∧ inR (v (2 + i) 1) ∧ inR (v (2 + i) 3)
def SRT (v : Nat → Nat → Int) (n : Nat) : Prop := ∀ i j, i < j → j < n → bef (v (2 + i)) (v (2 + j))
theorem vsw_o {v : Nat → Nat → Int} {i j m : Nat} (h1 : m ≠ 2 + i) (h2 : m ≠ 2 + j) : vsw v i j m = v m := by unfold vsw; rw [if_neg h1, if_neg h2]
theorem vsw_i {v : Nat → Nat → Int} {i j : Nat} : vsw v i j (2 + i) = v (2 + j) := by unfold vsw; rw [if_pos rfl]
theorem vsw_j {v : Nat → Nat → Int} {i j : Nat} : vsw v i j (2 + j) = v (2 + i) := by
  unfold vsw
  by_cases h : j = i
  · rw [h, if_pos rfl]
  · rw [if_neg (by omega), if_pos rfl]
theorem vsw_s {v : Nat → Nat → Int} {i j m : Nat} : vsw v i j (2 + m) = v (2 + (if m = i then j else if m = j then i else m)) := by
  unfold vsw
  by_cases h : m = i
  · rw [if_pos (by omega), if_pos h]
  · rw [if_neg (by omega), if_neg h]
    by_cases h' : m = j
    · rw [if_pos (by omega), if_pos h']
    · rw [if_neg (by omega), if_neg h']
theorem sw_lt {i j n m : Nat} (hi : i < n) (hj : j < n) (hm : m < n) : (if m = i then j else if m = j then i else m) < n := by
  split
  · exact hj
  · split
    · exact hi
    · exact hm
theorem sw_in {i j m q : Nat} (h : (if m = i then j else if m = j then i else m) = (if q = i then j else if q = j then i else q)) : m = q := by
  split at h <;> split at h <;> (try split at h) <;> (try split at h) <;> omega
theorem sp_sort {G : Mm} {b n : Nat} {v : Nat → Nat → Int} {Q : dp_Ps} (hc : CV G b v) (hn : v 0 5 = (n : Int)) (hn20 : n ≤ 20) (hna : NA v n) (hbr : BR v n)
    (h : ∀ G' v', CV G' b v' → FR b 30 G G' → (∀ j, ¬ (2 ≤ j ∧ j < 2 + n) → v' j = v j) → (FL v' n).Perm (FL v n) → SRT v' n → Q (jI 0) G') : Sp 19 4 [vR 2 b] G Q := by
  apply vcX2_sortAlarms
  have outer : ∀ m i : Nat, ∀ (G1 : Mm) (v1 : Nat → Nat → Int) (w2 w3 : Option Vl), n - i < m → 1 ≤ i → i ≤ 21 → CV G1 b v1 → FR b 30 G G1 → (∀ j, ¬ (2 ≤ j ∧ j < 2 + n) → v1 j = v j) → (FL v1 n).Perm (FL v n) → NA v1 n → BR v1 n → (∀ x y, x < y → y < i → y < n → bef (v1 (2 + x)) (v1 (2 + y))) →
      Wp 19 2 [some (vR 2 b), some (vI (jI (i : Int))), w2, w3] [] G1 Q := by
    intro m
    induction m with
    | zero => intro i G1 v1 w2 w3 hm; omega
    | succ m ih =>
      intro i G1 v1 w2 w3 hm hi1 hi21 hc1 hf1 ho1 hp1 hna1 hbr1 hs1
      apply vcX2_sortAlarms_2
      rw [hc1.f, ho1 0 (by omega), hn]
      by_cases hin : n ≤ i
      · rw [jI_le (inR_n (by omega)) (inR_n (by omega))]
        exact ⟨fun q => h G1 v1 hc1 hf1 ho1 hp1 (fun x y hxy hy => hs1 x y hxy (by omega) hy), fun q => by omega⟩
      · rw [jI_le (inR_n (by omega)) (inR_n (by omega))]
        refine ⟨fun q => by omega, fun _ => ?_⟩
        have inner : ∀ j : Nat, ∀ (G2 : Mm) (v2' : Nat → Nat → Int) (w3 : Option Vl), j ≤ i → CV G2 b v2' → FR b 30 G G2 → (∀ j, ¬ (2 ≤ j ∧ j < 2 + n) → v2' j = v j) → (FL v2' n).Perm (FL v n) → NA v2' n → BR v2' n →
            (∀ x y, x < y → y ≤ i → x ≠ j → y ≠ j → bef (v2' (2 + x)) (v2' (2 + y))) → (∀ y, j < y → y ≤ i → bef (v2' (2 + j)) (v2' (2 + y))) → Wp 19 12 [some (vR 2 b), some (vI (jI (i : Int))), some (vI (jI (j : Int))), w3] [] G2 Q := by
          intro j
          induction j with
          | zero =>
            intro G2 v2' w3 hj hc2 hf2 ho2 hp2 hna2 hbr2 hs2 ht2
            apply vcX2_sortAlarms_12
            rw [jI_le (inR_n (by omega)) (inR_s (by omega) (by omega)), jI_s]
            refine ⟨fun _ => ih (i + 1) G2 v2' _ _ (by omega) (by omega) (by omega) hc2 hf2 ho2 hp2 hna2 hbr2 (fun x y hxy hy hyn => ?_), fun q => by omega⟩
            by_cases hx : x = 0
            · rw [hx]; exact ht2 y (by omega) (by omega)
            · exact hs2 x y hxy (by omega) hx (by omega)
          | succ j ihj =>
            intro G2 v2' w3 hj hc2 hf2 ho2 hp2 hna2 hbr2 hs2 ht2
            have hjn : j + 1 < n := by omega
            apply vcX2_sortAlarms_12
            rw [jI_le (inR_n (by omega)) (inR_s (by omega) (by omega)), jI_s]
            refine ⟨fun q => by omega, fun _ => ⟨jI_in (by omega) (by omega) (by omega), ?_⟩⟩
            rw [jI_sub, show (((j + 1 : Nat) : Int) - 1) = (j : Int) by omega, hc2.r8, jI_cln (by omega), jI_cln (by omega), jI_add, show (((j + 1 : Nat) : Int) + -1) = (j : Int) by omega]
            refine ⟨jI_in (by omega) (by omega) (by omega), ?_⟩
            obtain ⟨f0, f1, f3⟩ := hbr2 (j + 1) hjn
            obtain ⟨g0, g1, g3⟩ := hbr2 j (by omega)
            refine sp_isBefore (fun k => hc2.al (by omega) k) (fun k => hc2.al (by omega) k) f0 f1 f3 g0 g1 g3 (fun hb => ⟨fun q => absurd q (by decide), fun _ => ?_⟩) (fun hb => ⟨fun _ => ?_, fun q => absurd rfl q⟩)
            · rw [hc2.r8]
              refine ⟨jI_in (by omega) (by omega) (by omega), jI_in (by omega) (by omega) (by omega), jI_in (by omega) (by omega) (by omega), ?_⟩
              rintro _ rfl
              refine ⟨jI_in (by omega) (by omega) (by omega), ?_⟩
              rintro _ rfl
              have e8 : (wR G2 (b + 1) (j + 1) (G2.2 (b + 1) j)).2 b 8 = b + 1 := by rw [wR_2, if_neg (by omega)]; exact hc2.r8
              rw [e8]
              have hsw := hc2.sw (i := j + 1) (j := j) (by omega) (by omega) (by omega)
              refine ihj _ (vsw v2' (j + 1) j) _ (by omega) hsw (hf2.tr ((FR.wR (by omega)).tr (FR.wR (by omega)))) (fun q hq => ?_) ?_ ?_ ?_ ?_ ?_
              · rw [vsw_o (by omega) (by omega)]; exact ho2 q hq
              · exact (FL_perm (s := fun m => if m = j + 1 then j else if m = j then j + 1 else m) (fun q hq => sw_lt hjn (by omega) hq) (fun q r _ _ he => sw_in he) (fun q _ => vsw_s)).trans hp2
              · intro x y hx hy he
                rw [vsw_s, vsw_s] at he
                exact sw_in (hna2 _ _ (sw_lt hjn (by omega) hx) (sw_lt hjn (by omega) hy) he)
              · intro x hx
                rw [vsw_s]
                exact hbr2 _ (sw_lt hjn (by omega) hx)
              · intro x y hxy hy hxj hyj
                by_cases hx1 : x = j + 1
                · rw [hx1, vsw_i, vsw_o (by omega) (by omega)]
                  exact hs2 j y (by omega) hy (by omega) (by omega)
                · rw [vsw_o (m := 2 + x) (by omega) (by omega)]
                  by_cases hy1 : y = j + 1
                  · rw [hy1, vsw_i]
                    exact hs2 x j (by omega) (by omega) (by omega) (by omega)
                  · rw [vsw_o (by omega) (by omega)]
                    exact hs2 x y hxy hy hx1 hy1
              · intro y hjy hy
                rw [vsw_j]
                by_cases hy1 : y = j + 1
                · rw [hy1, vsw_i]; exact hb
                · rw [vsw_o (by omega) (by omega)]
                  exact ht2 y (by omega) hy
            · have hb2 : bef (v2' (2 + j)) (v2' (2 + (j + 1))) := by
                rcases bef_or (a := v2' (2 + j)) (b := v2' (2 + (j + 1))) (fun he => by have := hna2 j (j + 1) (by omega) hjn he; omega) with h1 | h1
                · exact h1
                · exact absurd h1 hb
              refine ih (i + 1) G2 v2' _ _ (by omega) (by omega) (by omega) hc2 hf2 ho2 hp2 hna2 hbr2 (fun x y hxy hy hyn => ?_)
              by_cases hx1 : x = j + 1
              · rw [hx1]; exact ht2 y (by omega) (by omega)
              · by_cases hy1 : y = j + 1
                · rw [hy1]
                  by_cases hxj : x = j
                  · rw [hxj]; exact hb2
                  · exact bef_tr (hs2 x j (by omega) (by omega) hx1 (by omega)) hb2
                · exact hs2 x y hxy (by omega) hx1 hy1
        refine inner i G1 v1 w3 (Nat.le_refl _) hc1 hf1 ho1 hp1 hna1 hbr1 (fun x y hxy hy hx hy' => hs1 x y hxy (by omega) (by omega)) (fun y h1 h2 => by omega)
  by_cases h1n : 1 ≤ n
  · exact outer (n + 1) 1 G v none none (by omega) (by omega) (by omega) hc FR.rf (fun _ _ => rfl) (List.Perm.refl _) hna hbr (fun x y hxy hy => by omega)
  · exact outer 1 1 G v none none (by omega) (by omega) (by omega) hc FR.rf (fun _ _ => rfl) (List.Perm.refl _) hna hbr (fun x y hxy hy => by omega)
/-- the alarm at place p goes behind the others -/
def vRem (v : Nat → Nat → Int) (n p : Nat) : Nat → Nat → Int := fun j => if j = 0 then (fun k => if k = 5 then (n : Int) - 1 else v 0 k) else if 2 + p ≤ j ∧ j < 2 + (n - 1) then v (j + 1) else if j = 2 + (n - 1) then v (2 + p) else v j
theorem sp_remove {G : Mm} {b n p : Nat} {v : Nat → Nat → Int} {Q : dp_Ps} (hc : CV G b v) (hn : v 0 5 = (n : Int)) (hn20 : n ≤ 20) (hp : p < n)
    (h : ∀ G', CV G' b (vRem v n p) → FR b 30 G G' → Q (jI 0) G') : Sp 20 4 [vR 2 b, vI (jI (p : Int))] G Q := by
  apply vcX2_removeAlarm
  refine ⟨jI_in (by omega) (by omega) (by omega), ?_⟩
  rw [hc.r8, jI_cln (by omega)]
  -- at step i the row holds v's addresses, those behind p moved by one up to i
  have key : ∀ m i : Nat, ∀ G1 : Mm, n - i < m → p ≤ i → i < n → G1.1 = G.1 → (∀ a, a ≠ b + 1 → G1.2 a = G.2 a) → (∀ q, G1.2 (b + 1) q = if p ≤ q ∧ q < i then G.2 (b + 1) (q + 1) else G.2 (b + 1) q) →
      Wp 20 9 [some (vR 2 b), some (vI (jI (p : Int))), some (vR 0 (G.2 (b + 1) p)), some (vI (jI (i : Int)))] [] G1 Q := by
    intro m
    induction m with
    | zero => intro i G1 hm; omega
    | succ m ih =>
      intro i G1 hm hpi hin he1 he2 he3
      apply vcX2_removeAlarm_9
      have e8 : G1.2 b 8 = b + 1 := by rw [he2 b (by omega)]; exact hc.r8
      rw [he1, hc.f, hn, jI_s, jI_le (inR_n (by omega)) (inR_n (by omega)), e8, jI_cln (by omega), jI_cln (by omega)]
      refine ⟨fun q => ?_, fun q => ⟨jI_in (by omega) (by omega) (by omega), jI_in (by omega) (by omega) (by omega), ?_⟩⟩
      · rintro _ rfl
        have hin1 : i = n - 1 := by omega
        simp only [wI_s, wI_2, e8, jI_sub]
        rw [show (n : Int) - 1 = ((n - 1 : Nat) : Int) by omega, jI_cln (by omega)]
        refine ⟨jI_in (by omega) (by omega) (by omega), ?_⟩
        rintro _ rfl
        have hra := fun q (hq : q < 20) => hc.ra hq
        have e2 : ∀ q, (wR (wI G1 b 5 (jI ((n - 1 : Nat) : Int))) (b + 1) (n - 1) (G.2 (b + 1) p)).2 (b + 1) q = if q = n - 1 then G.2 (b + 1) p else if p ≤ q ∧ q < n - 1 then G.2 (b + 1) (q + 1) else G.2 (b + 1) q := by
          intro q
          show (if b + 1 = b + 1 ∧ q = n - 1 then G.2 (b + 1) p else G1.2 (b + 1) q) = _
          by_cases hq : q = n - 1
          · rw [if_pos ⟨rfl, hq⟩, if_pos hq]
          · rw [if_neg (fun z => hq z.2), if_neg hq, he3, hin1]
        have e3 : ∀ a, a ≠ b + 1 → (wR (wI G1 b 5 (jI ((n - 1 : Nat) : Int))) (b + 1) (n - 1) (G.2 (b + 1) p)).2 a = G.2 a := by
          intro a ha
          rw [← he2 a ha]
          funext q
          show (if a = b + 1 ∧ q = n - 1 then G.2 (b + 1) p else G1.2 a q) = G1.2 a q
          rw [if_neg (fun z => ha z.1)]
        obtain ⟨⟨k1, k2, k3, k4, k5, k6, k7, k8⟩, hv⟩ := hc
        refine h _ ⟨⟨by rw [e3 b (by omega)]; exact k1, by rw [e3 b (by omega)]; exact k2, by rw [e3 b (by omega)]; exact k3, by rw [e3 b (by omega)]; exact k4, by rw [e3 _ (by omega)]; exact k5, by rw [e3 _ (by omega)]; exact k6, fun q hq => ?_, fun q r hq hr he => ?_⟩, fun j hj k => ?_⟩ (fun a ha => ⟨?_, e3 a (by omega)⟩)
        · rw [e2]
          split
          · exact k7 p (by omega)
          · split
            · exact k7 (q + 1) (by omega)
            · exact k7 q hq
        · have e4 : ∀ q, (if q = n - 1 then G.2 (b + 1) p else if p ≤ q ∧ q < n - 1 then G.2 (b + 1) (q + 1) else G.2 (b + 1) q) = G.2 (b + 1) (if q = n - 1 then p else if p ≤ q ∧ q < n - 1 then q + 1 else q) := by
            intro q
            by_cases h1 : q = n - 1
            · rw [if_pos h1, if_pos h1]
            · rw [if_neg h1, if_neg h1]
              by_cases h2 : p ≤ q ∧ q < n - 1
              · rw [if_pos h2, if_pos h2]
              · rw [if_neg h2, if_neg h2]
          have e5 : ∀ q, q < 20 → (if q = n - 1 then p else if p ≤ q ∧ q < n - 1 then q + 1 else q) < 20 := by
            intro q hq
            by_cases h1 : q = n - 1
            · rw [if_pos h1]; omega
            · rw [if_neg h1]
              by_cases h2 : p ≤ q ∧ q < n - 1
              · rw [if_pos h2]; omega
              · rw [if_neg h2]; exact hq
          rw [e2, e2, e4, e4] at he
          have he := k8 _ _ (e5 q hq) (e5 r hr) he
          by_cases h1 : q = n - 1
          · rw [if_pos h1] at he
            by_cases h2 : r = n - 1
            · omega
            · rw [if_neg h2] at he
              by_cases h3 : p ≤ r ∧ r < n - 1
              · rw [if_pos h3] at he; omega
              · rw [if_neg h3] at he; omega
          · rw [if_neg h1] at he
            by_cases h2 : r = n - 1
            · rw [if_pos h2] at he
              by_cases h3 : p ≤ q ∧ q < n - 1
              · rw [if_pos h3] at he; omega
              · rw [if_neg h3] at he; omega
            · rw [if_neg h2] at he
              by_cases h3 : p ≤ q ∧ q < n - 1
              · rw [if_pos h3] at he
                by_cases h4 : p ≤ r ∧ r < n - 1
                · rw [if_pos h4] at he; omega
                · rw [if_neg h4] at he; omega
              · rw [if_neg h3] at he
                by_cases h4 : p ≤ r ∧ r < n - 1
                · rw [if_pos h4] at he; omega
                · rw [if_neg h4] at he; omega
        · show (if cA _ b j = b ∧ k = 5 then jI ((n - 1 : Nat) : Int) else G1.1 (cA _ b j) k) = jI (vRem v n p j k)
          rw [he1]
          unfold cA vRem
          by_cases ha : 2 ≤ j ∧ j < 22
          · have r1 := k7 p (by omega)
            rw [if_pos ha, e2, if_neg (show ¬ j = 0 by omega)]
            have hv' : ∀ x, x < 20 → G.1 (G.2 (b + 1) x) k = jI (v (2 + x) k) := fun x hx => by
              have := hv (2 + x) (by omega) k
              rwa [cA_al hx] at this
            by_cases hj1 : j - 2 = n - 1
            · rw [if_pos hj1, if_neg (by omega), if_neg (by omega), if_pos (by omega)]
              exact hv' p (by omega)
            · rw [if_neg hj1]
              by_cases hj2 : p ≤ j - 2 ∧ j - 2 < n - 1
              · have r2 := k7 (j - 2 + 1) (by omega)
                rw [if_pos hj2, if_neg (by omega), if_pos (by omega), hv' (j - 2 + 1) (by omega), show 2 + (j - 2 + 1) = j + 1 by omega]
              · have r2 := k7 (j - 2) (by omega)
                rw [if_neg hj2, if_neg (by omega), if_neg (by omega), if_neg (by omega), hv' (j - 2) (by omega), show 2 + (j - 2) = j by omega]
          · rw [if_neg ha]
            have hvj := hv j hj k
            rw [cA_lo ha] at hvj
            by_cases hj0 : j = 0
            · subst hj0
              rw [if_pos rfl]
              by_cases hk : k = 5
              · rw [if_pos ⟨rfl, hk⟩, if_pos hk, show ((n - 1 : Nat) : Int) = (n : Int) - 1 by omega]
              · rw [if_neg (fun z => hk z.2), if_neg hk]
                exact hvj
            · rw [if_neg (by omega), if_neg hj0, if_neg (by omega), if_neg (by omega)]
              exact hvj
        · funext k
          show (if a = b ∧ k = 5 then jI ((n - 1 : Nat) : Int) else G1.1 a k) = G.1 a k
          rw [he1, if_neg (by omega)]
      · rintro _ rfl
        refine ih (i + 1) _ (by omega) (by omega) (by omega) he1 (fun a ha => ?_) (fun q => ?_)
        · rw [← he2 a ha]
          funext r
          rw [wR_2, if_neg (fun z => ha z.1)]
        · rw [wR_2, he3, he3]
          by_cases hq : q = i
          · rw [if_pos ⟨rfl, hq⟩, if_neg (by omega), if_pos (by omega), hq]
          · rw [if_neg (fun z => hq z.2)]
            by_cases hq2 : p ≤ q ∧ q < i
            · rw [if_pos hq2, if_pos (by omega)]
            · rw [if_neg hq2, if_neg (by omega)]
  exact key (n + 1) p G (by omega) (Nat.le_refl _) hp rfl (fun _ _ => rfl) (fun q => by rw [if_neg (by omega)])

