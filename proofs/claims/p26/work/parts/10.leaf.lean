/-! ===== contracts of the leaves: alarms, comparers, totals, the log ===== -/
/-- which of two alarms is ahead -/
def bef (a c : Nat → Int) : Prop := a 1 < c 1 ∨ (a 1 = c 1 ∧ (c 3 < a 3 ∨ (a 3 = c 3 ∧ a 0 < c 0)))
theorem sp_isBefore {G : Mm} {a0 a1 : Nat} {f g : Nat → Int} {Q : dp_Ps} (h0 : ∀ k, G.1 a0 k = jI (f k)) (h1 : ∀ k, G.1 a1 k = jI (g k)) (f0 : inR (f 0)) (f1 : inR (f 1)) (f3 : inR (f 3)) (g0 : inR (g 0)) (g1 : inR (g 1)) (g3 : inR (g 3))
    (ht : bef f g → Q (jI 1) G) (hf : ¬ bef f g → Q (jI 0) G) : Sp 2 2 [vR 0 a0, vR 0 a1] G Q := by
  apply vcX0_isBefore
  simp only [h0, h1, jI_inj f1 g1, jI_inj f3 g3, jI_le g0 f0, jI_le f3 g3, jI_le g1 f1]
  unfold bef at ht hf
  refine ⟨fun q => ⟨fun q2 => ⟨fun q3 => hf (by omega), fun q3 => ht (by omega)⟩, fun q2 => ⟨fun q3 => hf (by omega), fun q3 => ht (by omega)⟩⟩, fun q => ⟨fun q3 => hf (by omega), fun q3 => ht (by omega)⟩⟩
theorem sp_begin {G : Mm} {b i : Nat} {v : Nat → Nat → Int} {x1 x2 x3 x4 : Int} {Q : dp_Ps} (hc : CV G b v) (hi : i < 20)
    (h : ∀ G', CV G' b (v2 (v2 (v2 (v2 (v2 (v2 (v2 (v2 v (2 + i) 0 x1) (2 + i) 1 x2) (2 + i) 2 x3) (2 + i) 3 x4) (2 + i) 4 (-1005)) (2 + i) 5 0) (2 + i) 6 (-1005)) (2 + i) 7 0) → FR b 30 G G' → G'.2 = G.2 → Q (jI 0) G') :
    Sp 0 5 [vR 0 (G.2 (b + 1) i), vI (jI x1), vI (jI x2), vI (jI x3), vI (jI x4)] G Q := by
  have hr : b ≤ G.2 (b + 1) i ∧ G.2 (b + 1) i < b + 30 := by have := hc.ra hi; omega
  apply vcX0_begin
  rintro _ rfl _ rfl _ rfl _ rfl _ rfl _ rfl _ rfl _ rfl
  exact h _ ((((((((hc.wal hi 0 x1).wal hi 1 x2).wal hi 2 x3).wal hi 3 x4).wal hi 4 (-1005)).wal hi 5 0).wal hi 6 (-1005)).wal hi 7 0)
    ((FR.wI hr).tr ((FR.wI hr).tr ((FR.wI hr).tr ((FR.wI hr).tr ((FR.wI hr).tr ((FR.wI hr).tr ((FR.wI hr).tr (FR.wI hr)))))))) rfl
theorem sp_anote {G : Mm} {b i : Nat} {v : Nat → Nat → Int} {x : Int} {Q : dp_Ps} (hc : CV G b v) (hi : i < 20) (hx : inR x) (h6 : inR (v (2 + i) 6))
    (h : ∀ G', CV G' b (v2 (v2 (v2 v (2 + i) 5 (v (2 + i) 5 + 1)) (2 + i) 6 (max (v (2 + i) 6) x)) (2 + i) 4 (-1005)) → FR b 30 G G' → G'.2 = G.2 → Q (jI 0) G') :
    Sp 3 2 [vR 0 (G.2 (b + 1) i), vI (jI x)] G Q := by
  have hr : b ≤ G.2 (b + 1) i ∧ G.2 (b + 1) i < b + 30 := by have := hc.ra hi; omega
  apply vcX0_noteRing
  rintro _ rfl _ rfl _ rfl
  rw [wI_n (by omega), hc.al hi, hc.al hi, jI_add, jI_max h6 hx]
  exact h _ (((hc.wal hi 5 _).wal hi 6 _).wal hi 4 (-1005)) ((FR.wI hr).tr ((FR.wI hr).tr (FR.wI hr))) rfl
theorem sp_goOn {G : Mm} {b i : Nat} {v : Nat → Nat → Int} {x : Int} {Q : dp_Ps} (hc : CV G b v) (hi : i < 20) (hx : 0 ≤ x ∧ x < 2147483648) (h2 : 0 ≤ v (2 + i) 2 ∧ v (2 + i) 2 < 2147483648)
    (ht : 0 < v (2 + i) 2 → ∀ G', CV G' b (v2 v (2 + i) 1 (v (2 + i) 1 + (x / v (2 + i) 2 + 1) * v (2 + i) 2)) → FR b 30 G G' → G'.2 = G.2 → Q (jI (x / v (2 + i) 2)) G')
    (hf : v (2 + i) 2 = 0 → ∀ G', CV G' b (v2 v (2 + i) 7 1) → FR b 30 G G' → G'.2 = G.2 → Q (jI 0) G') : Sp 4 3 [vR 0 (G.2 (b + 1) i), vI (jI x)] G Q := by
  have hr : b ≤ G.2 (b + 1) i ∧ G.2 (b + 1) i < b + 30 := by have := hc.ra hi; omega
  have i2 : inR (v (2 + i) 2) := ⟨by omega, by omega⟩
  have i0 : inR 0 := ⟨by omega, by omega⟩
  apply vcX0_goOn
  simp only [hc.al hi, jI_lt i0 i2, jI_inj i2 i0]
  refine ⟨fun q => ⟨by omega, ?_⟩, fun q => ?_⟩
  · rintro _ rfl
    rw [jI_div hx.1 hx.2 q h2.2, jI_add, jI_mul, jI_add]
    exact ht q _ (hc.wal hi 1 _) (FR.wI hr) rfl
  · rintro _ rfl
    exact hf (by omega) _ (hc.wal hi 7 1) (FR.wI hr) rfl
/-- an alarm is copied from another chip -/
theorem sp_acopy {G : Mm} {b i a1 : Nat} {v : Nat → Nat → Int} {g : Nat → Int} {Q : dp_Ps} (hc : CV G b v) (hi : i < 20) (hg : ∀ k, G.1 a1 k = jI (g k)) (h7 : g 7 = 0 ∨ g 7 = 1) (ho : a1 < b ∨ b + 30 ≤ a1)
    (h : ∀ G', CV G' b (v2 (v2 (v2 (v2 (v2 (v2 (v2 (v2 v (2 + i) 0 (g 0)) (2 + i) 1 (g 1)) (2 + i) 2 (g 2)) (2 + i) 3 (g 3)) (2 + i) 4 (g 4)) (2 + i) 5 (g 5)) (2 + i) 6 (g 6)) (2 + i) 7 (g 7)) → FR b 30 G G' → G'.2 = G.2 → Q (jI 0) G') :
    Sp 1 2 [vR 0 (G.2 (b + 1) i), vR 0 a1] G Q := by
  have hr : b ≤ G.2 (b + 1) i ∧ G.2 (b + 1) i < b + 30 := by have := hc.ra hi; omega
  have e : ∀ (G' : Mm), FR b 30 G G' → ∀ k, G'.1 a1 k = jI (g k) := fun G' hf k => by rw [(hf a1 ho).1]; exact hg k
  apply vcX0_copyFrom
  rintro _ rfl _ rfl _ rfl _ rfl _ rfl _ rfl _ rfl
  have r1 := FR.wI (G := G) (k := 0) (x := G.1 a1 0) hr
  rw [hg 0] at r1 ⊢
  have r2 := r1.tr (FR.wI (k := 1) (x := jI (g 1)) hr)
  rw [e _ r1 1]
  have r3 := r2.tr (FR.wI (k := 2) (x := jI (g 2)) hr)
  rw [e _ r2 2]
  have r4 := r3.tr (FR.wI (k := 3) (x := jI (g 3)) hr)
  rw [e _ r3 3]
  have r5 := r4.tr (FR.wI (k := 4) (x := jI (g 4)) hr)
  rw [e _ r4 4]
  have r6 := r5.tr (FR.wI (k := 5) (x := jI (g 5)) hr)
  rw [e _ r5 5]
  have r7 := r6.tr (FR.wI (k := 6) (x := jI (g 6)) hr)
  rw [e _ r6 6, e _ r7 7]
  refine ⟨by rcases h7 with h7 | h7 <;> rw [h7]; exact Or.inl rfl; exact Or.inr rfl, ?_⟩
  rintro _ rfl
  exact h _ ((((((((hc.wal hi 0 (g 0)).wal hi 1 (g 1)).wal hi 2 (g 2)).wal hi 3 (g 3)).wal hi 4 (g 4)).wal hi 5 (g 5)).wal hi 6 (g 6)).wal hi 7 (g 7)) (r7.tr (FR.wI hr)) rfl
-- comparers
theorem sp_isFree {G : Mm} {a : Nat} {f : Nat → Int} {Q : dp_Ps} (h0 : ∀ k, G.1 a k = jI (f k)) (f0 : inR (f 0)) (ht : f 0 = 0 → Q (jI 1) G) (hf : ¬ f 0 = 0 → Q (jI 0) G) : Sp 39 1 [vR 3 a] G Q := by
  apply vcX3_isFree
  simp only [h0, jI_inj f0 (show inR 0 from ⟨by omega, by omega⟩)]
  exact ⟨ht, hf⟩
theorem sp_isDue {G : Mm} {a : Nat} {f : Nat → Int} {x : Int} {Q : dp_Ps} (h0 : ∀ k, G.1 a k = jI (f k)) (hx : inR x) (f0 : inR (f 0)) (f2 : inR (f 2)) (f3 : inR (f 3)) (ht : 0 < f 0 ∧ f 3 = 0 ∧ f 2 ≤ x → Q (jI 1) G) (hf : ¬ (0 < f 0 ∧ f 3 = 0 ∧ f 2 ≤ x) → Q (jI 0) G) : Sp 40 2 [vR 3 a, vI (jI x)] G Q := by
  have i0 : inR 0 := ⟨by omega, by omega⟩
  apply vcX3_isDue
  simp only [h0, jI_le f0 i0, jI_inj f3 i0, jI_lt hx f2]
  exact ⟨fun q => hf (by omega), fun q => ⟨fun q2 => ⟨fun q3 => hf (by omega), fun q3 => ht (by omega)⟩, fun q2 => hf (by omega)⟩⟩
theorem sp_canTake {G : Mm} {a : Nat} {f : Nat → Int} {x w : Int} {Q : dp_Ps} (h0 : ∀ k, G.1 a k = jI (f k)) (f0 : inR (f 0)) (f1 : 0 ≤ f 1 ∧ f 1 < 1000000000) (f2 : 0 ≤ f 2 ∧ f 2 < 1000000000) (hx : 0 ≤ x ∧ x < 1000000000) (hw : inR w)
    (ht : 0 < f 0 ∧ f 2 - f 1 ≤ w ∧ f 2 - x ≤ w ∧ x - f 1 ≤ w → Q (jI 1) G) (hf : ¬ (0 < f 0 ∧ f 2 - f 1 ≤ w ∧ f 2 - x ≤ w ∧ x - f 1 ≤ w) → Q (jI 0) G) : Sp 41 3 [vR 3 a, vI (jI x), vI (jI w)] G Q := by
  have i0 : inR 0 := ⟨by omega, by omega⟩
  apply vcX3_canTake
  simp only [h0, jI_sub, jI_le f0 i0, jI_lt hw (show inR (f 2 - f 1) from ⟨by omega, by omega⟩), jI_lt hw (show inR (f 2 - x) from ⟨by omega, by omega⟩), jI_lt hw (show inR (x - f 1) from ⟨by omega, by omega⟩)]
  exact ⟨fun q => hf (by omega), fun q => ⟨fun q2 => hf (by omega), fun q2 => ⟨fun q3 => hf (by omega), fun q3 => ⟨fun q4 => hf (by omega), fun q4 => ht (by omega)⟩⟩⟩⟩
theorem sp_release {G : Mm} {b c : Nat} {v : Nat → Nat → Int} {Q : dp_Ps} (hc : CV G b v) (hi : c < 4)
    (h : ∀ G', CV G' b (v2 (v2 (v2 (v2 v (23 + c) 0 0) (23 + c) 1 0) (23 + c) 2 0) (23 + c) 3 0) → FR b 30 G G' → G'.2 = G.2 → Q (jI 0) G') : Sp 42 1 [vR 3 (b + 23 + c)] G Q := by
  have hr : b ≤ b + 23 + c ∧ b + 23 + c < b + 30 := by omega
  apply vcX3_release
  rintro _ rfl _ rfl _ rfl _ rfl
  exact h _ ((((hc.wco hi 0 0).wco hi 1 0).wco hi 2 0).wco hi 3 0) ((FR.wI hr).tr ((FR.wI hr).tr ((FR.wI hr).tr (FR.wI hr)))) rfl
theorem sp_load {G : Mm} {b c : Nat} {v : Nat → Nat → Int} {x y : Int} {Q : dp_Ps} (hc : CV G b v) (hi : c < 4)
    (h : ∀ G', CV G' b (v2 (v2 (v2 (v2 v (23 + c) 0 1) (23 + c) 1 x) (23 + c) 2 x) (23 + c) 3 y) → FR b 30 G G' → G'.2 = G.2 → Q (jI 0) G') : Sp 43 3 [vR 3 (b + 23 + c), vI (jI x), vI (jI y)] G Q := by
  have hr : b ≤ b + 23 + c ∧ b + 23 + c < b + 30 := by omega
  apply vcX3_load
  rintro _ rfl _ rfl _ rfl _ rfl
  exact h _ ((((hc.wco hi 0 1).wco hi 1 x).wco hi 2 x).wco hi 3 y) ((FR.wI hr).tr ((FR.wI hr).tr ((FR.wI hr).tr (FR.wI hr)))) rfl
theorem sp_loadOn {G : Mm} {b c : Nat} {v : Nat → Nat → Int} {Q : dp_Ps} (hc : CV G b v) (hi : c < 4) (h3 : inR (v (23 + c) 3))
    (ht : 0 < v (23 + c) 3 → ∀ G', CV G' b (v2 v (23 + c) 3 (v (23 + c) 3 - 1)) → FR b 30 G G' → G'.2 = G.2 → Q (jI 0) G') (hf : v (23 + c) 3 ≤ 0 → Q (jI 0) G) : Sp 45 1 [vR 3 (b + 23 + c)] G Q := by
  have hr : b ≤ b + 23 + c ∧ b + 23 + c < b + 30 := by omega
  apply vcX3_loadOn
  simp only [hc.co hi, jI_le h3 (show inR 0 from ⟨by omega, by omega⟩), jI_sub]
  refine ⟨hf, fun q => ?_⟩
  rintro _ rfl
  exact ht (by omega) _ (hc.wco hi 3 _) (FR.wI hr) rfl
theorem sp_join {G : Mm} {b c : Nat} {v : Nat → Nat → Int} {x : Int} {Q : dp_Ps} (hc : CV G b v) (hi : c < 4) (h0 : inR (v (23 + c) 0)) (h1 : inR (v (23 + c) 1)) (h2 : inR (v (23 + c) 2)) (hx : inR x)
    (h : ∀ G', CV G' b (v2 (v2 (v2 v (23 + c) 1 (if v (23 + c) 0 = 0 then x else min (v (23 + c) 1) x)) (23 + c) 2 (if v (23 + c) 0 = 0 then x else max (v (23 + c) 2) x)) (23 + c) 0 (v (23 + c) 0 + 1)) → FR b 30 G G' → G'.2 = G.2 → Q (jI 0) G') :
    Sp 44 2 [vR 3 (b + 23 + c), vI (jI x)] G Q := by
  have hr : b ≤ b + 23 + c ∧ b + 23 + c < b + 30 := by omega
  have i0 : inR 0 := ⟨by omega, by omega⟩
  apply vcX3_join
  rw [hc.co hi, hc.co hi, jI_inj h0 i0]
  refine ⟨fun q => ?_, fun q => ?_⟩
  · rw [if_pos q, if_pos q] at h
    rintro _ rfl
    rw [wI_n (by omega), hc.co hi, jI_inj h0 i0]
    refine ⟨fun _ => ?_, fun q2 => absurd q q2⟩
    rintro _ rfl _ rfl
    rw [wI_n (by omega), wI_n (by omega), hc.co hi, jI_add]
    exact h _ (((hc.wco hi 1 x).wco hi 2 x).wco hi 0 _) ((FR.wI hr).tr ((FR.wI hr).tr (FR.wI hr))) rfl
  · rw [if_neg q, if_neg q] at h
    rintro _ rfl
    rw [wI_n (by omega), wI_n (by omega), hc.co hi, hc.co hi, jI_inj h0 i0]
    refine ⟨fun q2 => absurd q2 q, fun _ => ?_⟩
    rintro _ rfl _ rfl
    rw [wI_n (by omega), wI_n (by omega), hc.co hi, jI_add, jI_min h1 hx, jI_max h2 hx]
    exact h _ (((hc.wco hi 1 _).wco hi 2 _).wco hi 0 _) ((FR.wI hr).tr ((FR.wI hr).tr (FR.wI hr))) rfl
theorem sp_ccopy {G : Mm} {b c a1 : Nat} {v : Nat → Nat → Int} {g : Nat → Int} {Q : dp_Ps} (hc : CV G b v) (hi : c < 4) (hg : ∀ k, G.1 a1 k = jI (g k)) (ho : a1 < b ∨ b + 30 ≤ a1)
    (h : ∀ G', CV G' b (v2 (v2 (v2 (v2 v (23 + c) 0 (g 0)) (23 + c) 1 (g 1)) (23 + c) 2 (g 2)) (23 + c) 3 (g 3)) → FR b 30 G G' → G'.2 = G.2 → Q (jI 0) G') : Sp 38 2 [vR 3 (b + 23 + c), vR 3 a1] G Q := by
  have hr : b ≤ b + 23 + c ∧ b + 23 + c < b + 30 := by omega
  apply vcX3_copyFrom
  rintro _ rfl _ rfl _ rfl _ rfl
  rw [wI_n (by omega), wI_n (by omega), wI_n (by omega), wI_n (by omega), wI_n (by omega), wI_n (by omega), hg 0, hg 1, hg 2, hg 3]
  exact h _ ((((hc.wco hi 0 _).wco hi 1 _).wco hi 2 _).wco hi 3 _) ((FR.wI hr).tr ((FR.wI hr).tr ((FR.wI hr).tr (FR.wI hr)))) rfl
-- totals
theorem sp_tclear {G : Mm} {b : Nat} {v : Nat → Nat → Int} {Q : dp_Ps} (hc : CV G b v)
    (h : ∀ G', CV G' b (v2 (v2 (v2 (v2 (v2 (v2 v 27 0 0) 27 1 0) 27 2 0) 27 3 0) 27 4 0) 27 5 0) → FR b 30 G G' → G'.2 = G.2 → Q (jI 0) G') : Sp 52 1 [vR 6 (b + 27)] G Q := by
  have hr : b ≤ b + 27 ∧ b + 27 < b + 30 := by omega
  apply vcX6_clear
  rintro _ rfl _ rfl _ rfl _ rfl _ rfl _ rfl
  exact h _ ((((((hc.wto 0 0).wto 1 0).wto 2 0).wto 3 0).wto 4 0).wto 5 0) ((FR.wI hr).tr ((FR.wI hr).tr ((FR.wI hr).tr ((FR.wI hr).tr ((FR.wI hr).tr (FR.wI hr)))))) rfl
theorem sp_tcopy {G : Mm} {b a1 : Nat} {v : Nat → Nat → Int} {g : Nat → Int} {Q : dp_Ps} (hc : CV G b v) (hg : ∀ k, G.1 a1 k = jI (g k)) (ho : a1 < b ∨ b + 30 ≤ a1)
    (h : ∀ G', CV G' b (v2 (v2 (v2 (v2 (v2 (v2 v 27 0 (g 0)) 27 1 (g 1)) 27 2 (g 2)) 27 3 (g 3)) 27 4 (g 4)) 27 5 (g 5)) → FR b 30 G G' → G'.2 = G.2 → Q (jI 0) G') : Sp 53 2 [vR 6 (b + 27), vR 6 a1] G Q := by
  have hr : b ≤ b + 27 ∧ b + 27 < b + 30 := by omega
  apply vcX6_copyFrom
  rintro _ rfl _ rfl _ rfl _ rfl _ rfl _ rfl
  simp only [wI_1]
  simp only [show ¬ a1 = b + 27 from by omega, false_and, if_false, hg]
  exact h _ ((((((hc.wto 0 _).wto 1 _).wto 2 _).wto 3 _).wto 4 _).wto 5 _) ((FR.wI hr).tr ((FR.wI hr).tr ((FR.wI hr).tr ((FR.wI hr).tr ((FR.wI hr).tr (FR.wI hr)))))) rfl
theorem sp_tnote {G : Mm} {b : Nat} {v : Nat → Nat → Int} {x : Int} {Q : dp_Ps} (hc : CV G b v) (hx : inR x) (h2 : inR (v 27 2))
    (h : ∀ G', CV G' b (v2 (v2 (v2 v 27 0 (v 27 0 + 1)) 27 1 (v 27 1 + x)) 27 2 (max (v 27 2) x)) → FR b 30 G G' → G'.2 = G.2 → Q (jI 0) G') : Sp 54 2 [vR 6 (b + 27), vI (jI x)] G Q := by
  have hr : b ≤ b + 27 ∧ b + 27 < b + 30 := by omega
  apply vcX6_noteRing
  rintro _ rfl _ rfl _ rfl
  rw [wI_n (by omega), wI_n (by omega), wI_n (by omega), hc.to, hc.to, hc.to, jI_add, jI_add, jI_max h2 hx]
  exact h _ (((hc.wto 0 _).wto 1 _).wto 2 _) ((FR.wI hr).tr ((FR.wI hr).tr (FR.wI hr))) rfl
-- the log
theorem sp_note {G : Mm} {b : Nat} {v : Nat → Nat → Int} {x1 x2 x3 x4 : Int} {Q : dp_Ps} (hc : CV G b v) (h1 : 0 ≤ v 28 1 ∧ v 28 1 < 2147483647)
    (h : ∀ G', CV G' b (v2 (v2 (v2 (v2 (v2 v 29 (4 * (v 28 1 % 8).toNat) x1) 29 (4 * (v 28 1 % 8).toNat + 1) x2) 29 (4 * (v 28 1 % 8).toNat + 2) x3) 29 (4 * (v 28 1 % 8).toNat + 3) x4) 28 1 (v 28 1 + 1)) → FR b 30 G G' → G'.2 = G.2 → Q (jI 0) G') :
    Sp 50 6 [vR 5 (b + 28), vI (jI x1), vI (jI x2), vI (jI x3), vI (jI x4)] G Q := by
  have hr : b ≤ b + 29 ∧ b + 29 < b + 30 := by omega
  have hr8 : b ≤ b + 28 ∧ b + 28 < b + 30 := by omega
  have hm : 0 ≤ v 28 1 % 8 ∧ v 28 1 % 8 < 8 := by omega
  apply vcX5_note
  simp only [wI_2, hc.rf, hc.lo, jI_rem h1.1 (show v 28 1 < 2147483648 by omega) (show (0 : Int) < 8 by omega) (show (8 : Int) < 2147483648 by omega), jI_mul, jI_add]
  have c0 : (jI (v 28 1 % 8 * 4)).toNatClampNeg = 4 * (v 28 1 % 8).toNat := by rw [jI_cl (by omega) (by omega)]; omega
  have c1 : (jI (v 28 1 % 8 * 4 + 1)).toNatClampNeg = 4 * (v 28 1 % 8).toNat + 1 := by rw [jI_cl (by omega) (by omega)]; omega
  have c2 : (jI (v 28 1 % 8 * 4 + 2)).toNatClampNeg = 4 * (v 28 1 % 8).toNat + 2 := by rw [jI_cl (by omega) (by omega)]; omega
  have c3 : (jI (v 28 1 % 8 * 4 + 3)).toNatClampNeg = 4 * (v 28 1 % 8).toNat + 3 := by rw [jI_cl (by omega) (by omega)]; omega
  rw [c0, c1, c2, c3]
  refine ⟨by rw [jI_inj ⟨by omega, by omega⟩ ⟨by omega, by omega⟩]; omega, jI_in (by omega) (by omega) (by omega), ?_⟩
  rintro _ rfl
  refine ⟨jI_in (by omega) (by omega) (by omega), ?_⟩
  rintro _ rfl
  refine ⟨jI_in (by omega) (by omega) (by omega), ?_⟩
  rintro _ rfl
  refine ⟨jI_in (by omega) (by omega) (by omega), ?_⟩
  rintro _ rfl _ rfl
  simp only [wI_2, hc.rf]
  rw [wI_n (by omega), wI_n (by omega), wI_n (by omega), wI_n (by omega), hc.lo, jI_add]
  exact h _ (((((hc.wfa _ x1).wfa _ x2).wfa _ x3).wfa _ x4).wlo 1 _) ((FR.wI hr).tr ((FR.wI hr).tr ((FR.wI hr).tr ((FR.wI hr).tr (FR.wI hr8))))) rfl
theorem sp_lcopy {G : Mm} {b b1 : Nat} {v w : Nat → Nat → Int} {Q : dp_Ps} (hc : CV G b v) (hd : CV G b1 w) (ho : b1 + 30 ≤ b ∨ b + 30 ≤ b1)
    (h : ∀ G', CV G' b (v2 (fun j k => if j = 29 ∧ k < 32 then w 29 k else v j k) 28 1 (w 28 1)) → FR b 30 G G' → G'.2 = G.2 → Q (jI 0) G') : Sp 49 2 [vR 5 (b + 28), vR 5 (b1 + 28)] G Q := by
  have hr : b ≤ b + 29 ∧ b + 29 < b + 30 := by omega
  have hr8 : b ≤ b + 28 ∧ b + 28 < b + 30 := by omega
  have z0 : (jI 0).toNatClampNeg = 0 := by rw [jI_cl (by omega) (by omega)]; rfl
  have z32 : (jI 32).toNatClampNeg = 32 := by rw [jI_cl (by omega) (by omega)]; rfl
  apply vcX5_copyFrom
  rw [z0, z32, hc.rf, hd.rf]
  refine ⟨⟨jI_neg (by omega) (by omega), jI_neg (by omega) (by omega), jI_neg (by omega) (by omega), by omega, by omega⟩, ?_⟩
  rintro _ rfl _ rfl
  have f1 : FR b 30 G (wC G (b1 + 29) 0 (b + 29) 0 32) := FR.wC hr
  have e : (wC G (b1 + 29) 0 (b + 29) 0 32).1 (b1 + 28) 1 = jI (w 28 1) := by rw [(f1 (b1 + 28) (by omega)).1]; exact hd.lo 1
  rw [e]
  have hc1 : CV (wC G (b1 + 29) 0 (b + 29) 0 32) b (fun j k => if j = 29 ∧ k < 32 then w 29 k else v j k) := by
    refine ⟨hc.1, fun j hj k => ?_⟩
    show (if cA G b j = b + 29 ∧ 0 ≤ k ∧ k < 0 + 32 then G.1 (b1 + 29) (0 + (k - 0)) else G.1 (cA G b j) k) = jI (if j = 29 ∧ k < 32 then w 29 k else v j k)
    by_cases hj9 : j = 29
    · subst hj9
      rw [cA_lo (by omega)]
      by_cases hk : k < 32
      · rw [if_pos ⟨rfl, by omega, by omega⟩, if_pos ⟨rfl, hk⟩, show 0 + (k - 0) = k by omega]
        exact hd.fa k
      · rw [if_neg (by omega), if_neg (by omega)]
        exact hc.fa k
    · have : cA G b j ≠ b + 29 := by
        intro q
        have := hc.1.ij hj (show 29 < 30 by omega) (by rw [q, cA_lo (by omega)])
        omega
      rw [if_neg (fun q => this q.1), if_neg (fun q => hj9 q.1)]
      exact hc.2 j hj k
  exact h _ (hc1.wlo 1 _) (f1.tr (FR.wI hr8)) rfl
theorem sp_tell {G : Mm} {b : Nat} {v : Nat → Nat → Int} {x y : Int} {Q : dp_Ps} (hc : CV G b v) (h1 : 0 ≤ v 28 1 ∧ v 28 1 < 2147483647) (hx : inR x) (hy : inR y)
    (hb : x < 0 ∨ y < 0 ∨ 4 ≤ y → Q (jI (-1002)) G) (hn : 0 ≤ x ∧ 0 ≤ y ∧ y < 4 ∧ (8 ≤ x ∨ v 28 1 ≤ x) → Q (jI (-1005)) G)
    (hv : 0 ≤ x ∧ 0 ≤ y ∧ y < 4 ∧ x < 8 ∧ x < v 28 1 → Q (jI (v 29 (4 * ((v 28 1 - 1 - x) % 8).toNat + y.toNat))) G) : Sp 51 3 [vR 5 (b + 28), vI (jI x), vI (jI y)] G Q := by
  have i0 : inR 0 := ⟨by omega, by omega⟩
  have i4 : inR 4 := ⟨by omega, by omega⟩
  have i8 : inR 8 := ⟨by omega, by omega⟩
  have iv : inR (v 28 1) := ⟨by omega, by omega⟩
  apply vcX5_tell
  simp only [hc.rf, hc.lo, jI_lt hx i0, jI_lt hy i0, jI_lt hy i4, jI_le i8 hx, jI_lt hx iv, jI_inj i8 i0, jI_sub]
  refine ⟨fun q => hb (by omega), fun q => ⟨fun q2 => hb (by omega), fun q2 => ⟨fun q3 => ⟨fun q4 => hn (by omega), fun q4 => ⟨fun q5 => ⟨by omega, ?_⟩, fun q5 => hn (by omega)⟩⟩, fun q3 => hb (by omega)⟩⟩⟩
  simp only [jI_rem (show 0 ≤ v 28 1 - 1 - x by omega) (show v 28 1 - 1 - x < 2147483648 by omega) (show (0 : Int) < 8 by omega) (show (8 : Int) < 2147483648 by omega), jI_mul, jI_add]
  refine ⟨jI_in (by omega) (by omega) (by omega), ?_⟩
  rw [jI_cl (by omega) (by omega), show ((v 28 1 - 1 - x) % 8 * 4 + y).toNat = 4 * ((v 28 1 - 1 - x) % 8).toNat + y.toNat by omega, hc.fa]
  exact hv (by omega)

