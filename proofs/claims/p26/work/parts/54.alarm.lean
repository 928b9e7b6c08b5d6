/-! ===== alarm and at: both ===== -/
/-- how many are before alarm a -/
noncomputable def befN (L : List Ar) (a : Ar) : Nat := L.countP (fun b => pB (bef b a))
theorem cnt_rng (i : Nat) : ∀ n, (List.range n).countP (fun j => decide (j < i)) = min i n
  | 0 => by simp
  | n + 1 => by
    rw [List.range_succ, List.countP_append, cnt_rng i n, List.countP_singleton]
    by_cases h : n < i
    · rw [if_pos (decide_eq_true h)]; omega
    · rw [if_neg (by simp [h])]; omega
theorem RepC.bfn {v : Nat → Nat → Int} {M : Ms} (h : RepC v M) {i : Nat} (hi : i < M.2.1.length) : befN M.2.1 (rc7 (v (2 + i))) = i := by
  have hp := (h.2.1.1.countP_eq (fun b => pB (bef b (rc7 (v (2 + i)))))).symm
  have e : ((FL v M.2.1.length).map rc7).countP (fun b => pB (bef b (rc7 (v (2 + i))))) = (List.range M.2.1.length).countP (fun j => decide (j < i)) := by
    unfold FL
    rw [List.map_map, List.countP_map]
    apply List.countP_congr
    intro j hj
    have hj := List.mem_range.mp hj
    show pB (bef (rc7 (v (2 + j))) (rc7 (v (2 + i)))) = true ↔ decide (j < i) = true
    rw [pB_t, bef_rc, decide_eq_true_iff]
    constructor
    · intro q
      rcases (show j < i ∨ j = i ∨ i < j by omega) with g | g | g
      · exact g
      · rw [g] at q; exact (bef_ir q).elim
      · exact (bef_as q (h.2.2.1 i j g hj)).elim
    · intro g; exact h.2.2.1 j i g hi
  unfold befN
  rw [hp, e, cnt_rng]; omega
theorem befN_lt {L : List Ar} {a b : Ar} (ha : a ∈ L) (h : bef a b) : befN L a < befN L b := by
  unfold befN
  refine cnt_lt L (fun x hx q => ?_) ⟨a, ha, ?_, ?_⟩
  · rw [pB_t] at q ⊢; exact bef_tr q h
  · rw [pB_f]; exact bef_ir
  · rw [pB_t]; exact h
theorem befN_inj {L : List Ar} (hn : NI L) {a b : Ar} (ha : a ∈ L) (hb : b ∈ L) (h : befN L a = befN L b) : a = b := by
  by_cases h0 : a 0 = b 0
  · exact hn.inj ha hb h0
  · rcases bef_or h0 with q | q
    · have := befN_lt ha q; omega
    · have := befN_lt hb q; omega
theorem RA.bfn {f : Ar} {L : List Ar} (h : RA f L) (i : Nat) : (List.range L.length).countP (fun j => pB (bef (rA f j) (rA f i))) = befN L (rA f i) := by
  unfold befN
  rw [← h.1.countP_eq, List.countP_map]
  rfl
-- alarm
noncomputable def zAl (L : List Ar) (a : Ar) (y : Int) : Int := if y = 0 then a 1 else if y = 1 then a 2 else if y = 2 then a 3 else if y = 3 then a 4 else if y = 4 then (befN L a : Int) else if y = 5 then a 5 else if y = 6 then a 6 else -1002
noncomputable def zAla (Z : Zst) (x y : Int) : Int := match lkp Z.1.2.1 x with
  | none => -1001
  | some a => zAl Z.1.2.1 a y
theorem zAl_d {L : List Ar} {a : Ar} {y : Int} (h0 : ¬ y = 0) (h1 : ¬ y = 1) (h2 : ¬ y = 2) (h3 : ¬ y = 3) (h4 : ¬ y = 4) (h5 : ¬ y = 5) (h6 : ¬ y = 6) : zAl L a y = -1002 := by
  unfold zAl
  rw [if_neg h0, if_neg h1, if_neg h2, if_neg h3, if_neg h4, if_neg h5, if_neg h6]
theorem sp_alaC {G : Mm} {B : Nat} {Z : Zst} {T K x y : Int} {Q : dp_Ps} (h : SysC G B Z) (hz : ZI Z T K) (ix : inR x) (iy : inR y) (hq : Q (jI (zAla Z x y)) G) : Sp 70 5 [vR 7 B, vI (jI x), vI (jI y)] G Q := by
  have hm := hz.1.1
  have hl := hm.2.1
  obtain ⟨v, hc, hR⟩ := h.2.2.1.get
  unfold zAla at hq
  apply vcX7_alarm
  rw [h.1.1]
  refine sp_placeOf hc hR.1.1 hl ix (fun i hi => (hR.2.1.BR hm i hi).1) (fun hno => ⟨fun _ => ?_, fun z => absurd rfl z⟩) (fun p hp hp0 _ => ?_)
  · rw [lkp_n (fun b hb => by
      obtain ⟨j, hj, rfl⟩ := hR.2.1.mem.mp hb
      rw [rc7_k (by decide)]
      exact hno j hj)] at hq
    exact hq
  · rw [jI_inj (inR_n (by omega)) (inR_s (by omega) (by omega))]
    refine ⟨fun z => by omega, fun _ => ?_⟩
    have haL := hR.2.1.at hp
    rw [lkp_s hm.2.2.1 haL (by rw [rc7_k (by decide)]; exact hp0)] at hq
    dsimp only at hq
    have key : ∀ k, k < 7 → G.1 (G.2 (G.2 (B + 1) 8) (jI (p : Int)).toNatClampNeg) k = jI (rc7 (v (2 + p)) k) := fun k hk => by
      rw [hc.r8, jI_cln (by omega), hc.al (by omega), rc7_k hk]
    rw [jI_toInt iy, h.1.1, key 1 (by decide), key 2 (by decide), key 3 (by decide), key 4 (by decide), key 5 (by decide), key 6 (by decide)]
    refine ⟨jI_in (by omega) (by omega) (by omega), fun q => ?_, fun n0 => ⟨fun q => ?_, fun n1 => ⟨fun q => ?_, fun n2 => ⟨fun q => ?_, fun n3 => ⟨fun q => ?_, fun n4 => ⟨fun q => ?_, fun n5 => ⟨fun q => ?_, fun n6 => ?_⟩⟩⟩⟩⟩⟩⟩
    · rw [q] at hq; exact hq
    · rw [q] at hq; exact hq
    · rw [q] at hq; exact hq
    · rw [q] at hq; exact hq
    · rw [q] at hq
      have hq : Q (jI (befN Z.1.2.1 (rc7 (v (2 + p))) : Int)) G := hq
      rw [hR.bfn hp] at hq; exact hq
    · rw [q] at hq; exact hq
    · rw [q] at hq; exact hq
    · rw [zAl_d n0 n1 n2 n3 n4 n5 n6] at hq; exact hq
-- at
noncomputable def zAt (Z : Zst) (x : Int) : Int := if x < 0 then -1002 else match Z.1.2.1.find? (fun a => decide ((befN Z.1.2.1 a : Int) = x)) with
  | none => -1005
  | some a => a 0
theorem zAt_s {Z : Zst} {x : Int} {a : Ar} (hn : NI Z.1.2.1) (hx : ¬ x < 0) (ha : a ∈ Z.1.2.1) (he : (befN Z.1.2.1 a : Int) = x) : zAt Z x = a 0 := by
  unfold zAt
  rw [if_neg hx]
  cases hf : Z.1.2.1.find? (fun a => decide ((befN Z.1.2.1 a : Int) = x)) with
  | none =>
    have := List.find?_eq_none.mp hf a ha
    simp [he] at this
  | some b =>
    have h1 := List.mem_of_find?_eq_some hf
    have h2 := List.find?_some hf
    have h2 : (befN Z.1.2.1 b : Int) = x := by simpa using h2
    rw [befN_inj hn h1 ha (by omega)]
theorem zAt_n {Z : Zst} {x : Int} (hx : ¬ x < 0) (h : ∀ a, a ∈ Z.1.2.1 → (befN Z.1.2.1 a : Int) ≠ x) : zAt Z x = -1005 := by
  unfold zAt
  rw [if_neg hx, List.find?_eq_none.mpr (fun b hb => by simp [h b hb])]
theorem sp_atC {G : Mm} {B : Nat} {Z : Zst} {T K x : Int} {Q : dp_Ps} (h : SysC G B Z) (hz : ZI Z T K) (ix : inR x) (hq : Q (jI (zAt Z x)) G) : Sp 72 2 [vR 7 B, vI (jI x)] G Q := by
  have hm := hz.1.1
  have hl := hm.2.1
  obtain ⟨v, hc, hR⟩ := h.2.2.1.get
  apply vcX7_at
  rw [h.1.1, hc.f, hR.1.1, hc.r8, jI_le (inR_s (by omega) (by omega)) ix, jI_le (inR_n (by omega)) ix]
  refine ⟨fun q => ⟨fun q2 => ?_, fun q2 => ?_⟩, fun q => ?_⟩
  · rw [zAt_n (by omega) (fun a ha => by
      obtain ⟨j, hj, rfl⟩ := hR.2.1.mem.mp ha
      rw [hR.bfn hj]; omega)] at hq
    exact hq
  · obtain ⟨p, rfl⟩ := Int.eq_ofNat_of_zero_le q
    have hp : p < Z.1.2.1.length := by omega
    rw [jI_cln (by omega), hc.al (by omega)]
    rw [zAt_s hm.2.2.1 (by omega) (hR.2.1.at hp) (by rw [hR.bfn hp]), rc7_k (by decide)] at hq
    exact ⟨jI_in (by omega) (by omega) (by omega), hq⟩
  · unfold zAt at hq
    rw [if_pos (by omega)] at hq
    exact hq
