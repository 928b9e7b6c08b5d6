/-! ===== whole numbers as the machine has them; the memory's cells; a chip in the memory ===== -/
def inR (z : Int) : Prop := -2147483648 ≤ z ∧ z < 2147483648
theorem jI_add (a b : Int) : jI a + jI b = jI (a + b) := (Int32.ofInt_add a b).symm
theorem jI_sub (a b : Int) : jI a - jI b = jI (a - b) := (Int32.ofInt_sub a b).symm
theorem jI_mul (a b : Int) : jI a * jI b = jI (a * b) := (Int32.ofInt_mul a b).symm
theorem jI_toInt {a : Int} (h : inR a) : (jI a).toInt = a := Int32.toInt_ofInt_of_le (by unfold inR at h; omega) (by unfold inR at h; omega)
theorem jI_of (x : Int32) : jI x.toInt = x := Int32.ofInt_toInt x
theorem inR_of (x : Int32) : inR x.toInt := by
  have h1 := Int32.toInt_lt x
  have h2 := Int32.le_toInt x
  unfold inR
  omega
theorem jI_inj {a b : Int} (ha : inR a) (hb : inR b) : jI a = jI b ↔ a = b := by
  constructor
  · intro h
    have := congrArg Int32.toInt h
    rwa [jI_toInt ha, jI_toInt hb] at this
  · intro h; rw [h]
theorem jI_lt {a b : Int} (ha : inR a) (hb : inR b) : jI a < jI b ↔ a < b := by rw [Int32.lt_iff_toInt_lt, jI_toInt ha, jI_toInt hb]
theorem jI_le {a b : Int} (ha : inR a) (hb : inR b) : jI a ≤ jI b ↔ a ≤ b := by rw [Int32.le_iff_toInt_le, jI_toInt ha, jI_toInt hb]
theorem jI_cl {a : Int} (h0 : 0 ≤ a) (h : a < 2147483648) : (jI a).toNatClampNeg = a.toNat := Int32.toNatClampNeg_ofInt_of_le (by omega) (by omega)
theorem jI_cln {n : Nat} (h : n < 2147483648) : (jI (n : Int)).toNatClampNeg = n := by rw [jI_cl (by omega) (by omega)]; omega
theorem jI_in {a : Int} {n : Nat} (h0 : 0 ≤ a) (h : a < n) (hn : n ≤ 2147483648) : vp_in (jI a) n := by
  rw [vp_in_iff, jI_toInt ⟨by omega, by omega⟩]
  exact ⟨h0, h⟩
theorem jI_nat (n : Nat) : jI (n : Int) = nI n := Int32.ofInt_eq_ofNat
theorem jI_div {a b : Int} (h0 : 0 ≤ a) (h1 : a < 2147483648) (h2 : 0 < b) (h3 : b < 2147483648) : jI a / jI b = jI (a / b) := by
  obtain ⟨x, rfl⟩ := Int.eq_ofNat_of_zero_le h0
  obtain ⟨y, rfl⟩ := Int.eq_ofNat_of_zero_le (Int.le_of_lt h2)
  have h := pk_div (a := x) (d := y) (by omega) (by omega) (by omega)
  rw [jI_nat, jI_nat, h, ← jI_nat]
  rfl
theorem jI_rem {a b : Int} (h0 : 0 ≤ a) (h1 : a < 2147483648) (h2 : 0 < b) (h3 : b < 2147483648) : jI a - jI a / jI b * jI b = jI (a % b) := by
  obtain ⟨x, rfl⟩ := Int.eq_ofNat_of_zero_le h0
  obtain ⟨y, rfl⟩ := Int.eq_ofNat_of_zero_le (Int.le_of_lt h2)
  have h := pk_rem (a := x) (d := y) (by omega) (by omega) (by omega)
  rw [jI_nat, jI_nat, h, ← jI_nat]
  rfl
theorem jI_neg {a : Int} (h0 : 0 ≤ a) (h : a < 2147483648) : ¬ jI a < 0 := by
  show ¬ jI a < jI 0
  rw [jI_lt ⟨by omega, by omega⟩ ⟨by decide, by decide⟩]
  omega
theorem jI_max {a b : Int} (ha : inR a) (hb : inR b) : (if jI a < jI b then jI b else jI a) = jI (max a b) := by
  by_cases h : a < b
  · rw [if_pos ((jI_lt ha hb).mpr h)]; congr 1; omega
  · rw [if_neg (fun q => h ((jI_lt ha hb).mp q))]; congr 1; omega
theorem jI_min {a b : Int} (ha : inR a) (hb : inR b) : (if jI b < jI a then jI b else jI a) = jI (min a b) := by
  by_cases h : b < a
  · rw [if_pos ((jI_lt hb ha).mpr h)]; congr 1; omega
  · rw [if_neg (fun q => h ((jI_lt hb ha).mp q))]; congr 1; omega
-- memory
theorem wI_1 (G : Mm) (a k : Nat) (x : Int32) (b j : Nat) : (wI G a k x).1 b j = if b = a ∧ j = k then x else G.1 b j := rfl
theorem wI_2 (G : Mm) (a k : Nat) (x : Int32) : (wI G a k x).2 = G.2 := rfl
theorem wR_1 (G : Mm) (a k x : Nat) : (wR G a k x).1 = G.1 := rfl
theorem wR_2 (G : Mm) (a k x : Nat) (b j : Nat) : (wR G a k x).2 b j = if b = a ∧ j = k then x else G.2 b j := rfl
theorem wI_s (G : Mm) (a k : Nat) (x : Int32) : (wI G a k x).1 a k = x := by rw [wI_1, if_pos ⟨rfl, rfl⟩]
theorem wI_n {G : Mm} {a k : Nat} {x : Int32} {b j : Nat} (h : ¬ (b = a ∧ j = k)) : (wI G a k x).1 b j = G.1 b j := by rw [wI_1, if_neg h]
/-- outside of the cells b to b + n - 1 the two memories are one -/
def FR (b n : Nat) (G G' : Mm) : Prop := ∀ a, (a < b ∨ b + n ≤ a) → G'.1 a = G.1 a ∧ G'.2 a = G.2 a
theorem FR.rf {b n : Nat} {G : Mm} : FR b n G G := fun _ _ => ⟨rfl, rfl⟩
theorem FR.tr {b n : Nat} {G1 G2 G3 : Mm} (h : FR b n G1 G2) (h' : FR b n G2 G3) : FR b n G1 G3 := fun a ha => ⟨(h' a ha).1.trans (h a ha).1, (h' a ha).2.trans (h a ha).2⟩
theorem FR.wI {b n a k : Nat} {x : Int32} {G : Mm} (h : b ≤ a ∧ a < b + n) : FR b n G (wI G a k x) := by
  intro c hc
  refine ⟨?_, rfl⟩
  funext j
  rw [wI_1, if_neg (by omega)]
theorem FR.wR {b n a k x : Nat} {G : Mm} (h : b ≤ a ∧ a < b + n) : FR b n G (wR G a k x) := by
  intro c hc
  refine ⟨rfl, ?_⟩
  funext j
  rw [wR_2, if_neg (by omega)]
theorem FR.wC {b n a0 sp a d m : Nat} {G : Mm} (h : b ≤ a ∧ a < b + n) : FR b n G (wC G a0 sp a d m) := by
  intro c hc
  refine ⟨?_, rfl⟩
  funext j
  show (if c = a ∧ d ≤ j ∧ j < d + m then _ else G.1 c j) = G.1 c j
  rw [if_neg (by omega)]
theorem FR.sub {b n b' n' : Nat} {G G' : Mm} (h : FR b n G G') (h1 : b' ≤ b) (h2 : b + n ≤ b' + n') : FR b' n' G G' := fun a ha => h a (by omega)
-- a chip's cells lie from b on: the chip, the alarms' row, 20 alarms, the comparers' row, 4 comparers, totals, log, facts
/-- how the cells of a chip hang together -/
def CW (G : Mm) (b : Nat) : Prop := G.2 b 8 = b + 1 ∧ G.2 b 9 = b + 22 ∧ G.2 b 10 = b + 27 ∧ G.2 b 11 = b + 28 ∧ G.2 (b + 28) 0 = b + 29 ∧ (∀ c, c < 4 → G.2 (b + 22) c = b + 23 + c) ∧ (∀ i, i < 20 → b + 2 ≤ G.2 (b + 1) i ∧ G.2 (b + 1) i < b + 22) ∧ (∀ i j, i < 20 → j < 20 → G.2 (b + 1) i = G.2 (b + 1) j → i = j)
/-- the cell of the j-th object of a chip: 2 to 21 the alarms by their places, else by its address -/
def cA (G : Mm) (b j : Nat) : Nat := if 2 ≤ j ∧ j < 22 then G.2 (b + 1) (j - 2) else b + j
/-- the numbers of a chip: v j k is field k of the j-th object -/
def CV (G : Mm) (b : Nat) (v : Nat → Nat → Int) : Prop := CW G b ∧ ∀ j, j < 30 → ∀ k, G.1 (cA G b j) k = jI (v j k)
def v2 (v : Nat → Nat → Int) (j k : Nat) (x : Int) : Nat → Nat → Int := fun i m => if i = j ∧ m = k then x else v i m
theorem v2_s (v : Nat → Nat → Int) (j k : Nat) (x : Int) : v2 v j k x j k = x := by simp [v2]
theorem v2_n {v : Nat → Nat → Int} {j k : Nat} {x : Int} {i m : Nat} (h : ¬ (i = j ∧ m = k)) : v2 v j k x i m = v i m := by simp [v2, h]
theorem cA_lo {G : Mm} {b j : Nat} (h : ¬ (2 ≤ j ∧ j < 22)) : cA G b j = b + j := by unfold cA; rw [if_neg h]
theorem cA_al {G : Mm} {b i : Nat} (h : i < 20) : cA G b (2 + i) = G.2 (b + 1) i := by
  unfold cA
  rw [if_pos (by omega), show 2 + i - 2 = i from by omega]
theorem CW.rg {G : Mm} {b j : Nat} (h : CW G b) (hj : j < 30) : b ≤ cA G b j ∧ cA G b j < b + 30 := by
  unfold cA
  split
  · have := h.2.2.2.2.2.2.1 (j - 2) (by omega)
    omega
  · omega
theorem CW.ij {G : Mm} {b i j : Nat} (h : CW G b) (hi : i < 30) (hj : j < 30) (he : cA G b i = cA G b j) : i = j := by
  unfold cA at he
  split at he
  · split at he
    · have := h.2.2.2.2.2.2.2 _ _ (show i - 2 < 20 by omega) (show j - 2 < 20 by omega) he
      omega
    · have := h.2.2.2.2.2.2.1 (i - 2) (by omega)
      omega
  · split at he
    · have := h.2.2.2.2.2.2.1 (j - 2) (by omega)
      omega
    · omega
theorem CV.f {G : Mm} {b : Nat} {v : Nat → Nat → Int} (h : CV G b v) (k : Nat) : G.1 b k = jI (v 0 k) := h.2 0 (by omega) k
theorem CV.al {G : Mm} {b : Nat} {v : Nat → Nat → Int} (h : CV G b v) {i : Nat} (hi : i < 20) (k : Nat) : G.1 (G.2 (b + 1) i) k = jI (v (2 + i) k) := by
  have := h.2 (2 + i) (by omega) k
  rwa [cA_al hi] at this
theorem CV.co {G : Mm} {b : Nat} {v : Nat → Nat → Int} (h : CV G b v) {c : Nat} (hc : c < 4) (k : Nat) : G.1 (b + 23 + c) k = jI (v (23 + c) k) := by
  have := h.2 (23 + c) (by omega) k
  rwa [cA_lo (by omega), ← Nat.add_assoc] at this
theorem CV.to {G : Mm} {b : Nat} {v : Nat → Nat → Int} (h : CV G b v) (k : Nat) : G.1 (b + 27) k = jI (v 27 k) := h.2 27 (by omega) k
theorem CV.lo {G : Mm} {b : Nat} {v : Nat → Nat → Int} (h : CV G b v) (k : Nat) : G.1 (b + 28) k = jI (v 28 k) := h.2 28 (by omega) k
theorem CV.fa {G : Mm} {b : Nat} {v : Nat → Nat → Int} (h : CV G b v) (k : Nat) : G.1 (b + 29) k = jI (v 29 k) := h.2 29 (by omega) k
theorem CV.r8 {G : Mm} {b : Nat} {v : Nat → Nat → Int} (h : CV G b v) : G.2 b 8 = b + 1 := h.1.1
theorem CV.r9 {G : Mm} {b : Nat} {v : Nat → Nat → Int} (h : CV G b v) : G.2 b 9 = b + 22 := h.1.2.1
theorem CV.r10 {G : Mm} {b : Nat} {v : Nat → Nat → Int} (h : CV G b v) : G.2 b 10 = b + 27 := h.1.2.2.1
theorem CV.r11 {G : Mm} {b : Nat} {v : Nat → Nat → Int} (h : CV G b v) : G.2 b 11 = b + 28 := h.1.2.2.2.1
theorem CV.rf {G : Mm} {b : Nat} {v : Nat → Nat → Int} (h : CV G b v) : G.2 (b + 28) 0 = b + 29 := h.1.2.2.2.2.1
theorem CV.rc {G : Mm} {b : Nat} {v : Nat → Nat → Int} (h : CV G b v) {c : Nat} (hc : c < 4) : G.2 (b + 22) c = b + 23 + c := h.1.2.2.2.2.2.1 c hc
theorem CV.ra {G : Mm} {b : Nat} {v : Nat → Nat → Int} (h : CV G b v) {i : Nat} (hi : i < 20) : b + 2 ≤ G.2 (b + 1) i ∧ G.2 (b + 1) i < b + 22 := h.1.2.2.2.2.2.2.1 i hi
theorem CW.wI {G : Mm} {b a k : Nat} {x : Int32} (h : CW G b) : CW (wI G a k x) b := h
theorem CV.wr {G : Mm} {b : Nat} {v : Nat → Nat → Int} (h : CV G b v) {j : Nat} (hj : j < 30) (k : Nat) (x : Int) : CV (wI G (cA G b j) k (jI x)) b (v2 v j k x) := by
  refine ⟨h.1, fun i hi m => ?_⟩
  show (if cA G b i = cA G b j ∧ m = k then jI x else G.1 (cA G b i) m) = jI (if i = j ∧ m = k then x else v i m)
  by_cases he : i = j ∧ m = k
  · rw [if_pos he, if_pos ⟨by rw [he.1], he.2⟩]
  · rw [if_neg he, if_neg (fun q => he ⟨h.1.ij hi hj q.1, q.2⟩)]
    exact h.2 i hi m
theorem CV.wf {G : Mm} {b : Nat} {v : Nat → Nat → Int} (h : CV G b v) (k : Nat) (x : Int) : CV (wI G b k (jI x)) b (v2 v 0 k x) := h.wr (j := 0) (by omega) k x
theorem CV.wal {G : Mm} {b : Nat} {v : Nat → Nat → Int} (h : CV G b v) {i : Nat} (hi : i < 20) (k : Nat) (x : Int) : CV (wI G (G.2 (b + 1) i) k (jI x)) b (v2 v (2 + i) k x) := by
  have := h.wr (j := 2 + i) (by omega) k x
  rwa [cA_al hi] at this
theorem CV.wco {G : Mm} {b : Nat} {v : Nat → Nat → Int} (h : CV G b v) {c : Nat} (hc : c < 4) (k : Nat) (x : Int) : CV (wI G (b + 23 + c) k (jI x)) b (v2 v (23 + c) k x) := by
  have := h.wr (j := 23 + c) (by omega) k x
  rwa [cA_lo (by omega), ← Nat.add_assoc] at this
theorem CV.wto {G : Mm} {b : Nat} {v : Nat → Nat → Int} (h : CV G b v) (k : Nat) (x : Int) : CV (wI G (b + 27) k (jI x)) b (v2 v 27 k x) := h.wr (j := 27) (by omega) k x
theorem CV.wlo {G : Mm} {b : Nat} {v : Nat → Nat → Int} (h : CV G b v) (k : Nat) (x : Int) : CV (wI G (b + 28) k (jI x)) b (v2 v 28 k x) := h.wr (j := 28) (by omega) k x
theorem CV.wfa {G : Mm} {b : Nat} {v : Nat → Nat → Int} (h : CV G b v) (k : Nat) (x : Int) : CV (wI G (b + 29) k (jI x)) b (v2 v 29 k x) := h.wr (j := 29) (by omega) k x
theorem CV.to_eq {G : Mm} {b : Nat} {v w : Nat → Nat → Int} (h : CV G b v) (e : ∀ j, j < 30 → ∀ k, v j k = w j k) : CV G b w := ⟨h.1, fun j hj k => by rw [← e j hj k]; exact h.2 j hj k⟩
theorem CW.fr {G G' : Mm} {b : Nat} (h : CW G b) (hf : ∀ a, b ≤ a → a < b + 30 → G'.2 a = G.2 a) : CW G' b := by
  obtain ⟨h1, h2, h3, h4, h5, h6, h7, h8⟩ := h
  have e := hf b (by omega) (by omega)
  have e1 := hf (b + 1) (by omega) (by omega)
  have e22 := hf (b + 22) (by omega) (by omega)
  have e28 := hf (b + 28) (by omega) (by omega)
  exact ⟨by rw [e]; exact h1, by rw [e]; exact h2, by rw [e]; exact h3, by rw [e]; exact h4, by rw [e28]; exact h5, by rw [e22]; exact h6, by rw [e1]; exact h7, by rw [e1]; exact h8⟩
theorem CV.fr {G G' : Mm} {b : Nat} {v : Nat → Nat → Int} (h : CV G b v) (hf : ∀ a, b ≤ a → a < b + 30 → G'.1 a = G.1 a ∧ G'.2 a = G.2 a) : CV G' b v := by
  have hw := h.1.fr (fun a h1 h2 => (hf a h1 h2).2)
  refine ⟨hw, fun j hj k => ?_⟩
  have e : cA G' b j = cA G b j := by unfold cA; rw [(hf (b + 1) (by omega) (by omega)).2]
  have hr := h.1.rg hj
  rw [e, (hf _ hr.1 hr.2).1]
  exact h.2 j hj k
/-- a chip elsewhere stays -/
theorem CV.off {G G' : Mm} {b d n : Nat} {v : Nat → Nat → Int} (h : CV G b v) (hf : FR d n G G') (ho : b + 30 ≤ d ∨ d + n ≤ b) : CV G' b v := h.fr (fun a h1 h2 => hf a (by omega))
theorem CW.off {G G' : Mm} {b d n : Nat} (h : CW G b) (hf : FR d n G G') (ho : b + 30 ≤ d ∨ d + n ≤ b) : CW G' b := h.fr (fun a h1 h2 => (hf a (by omega)).2)
/-- any numbers at all -/
theorem CW.v {G : Mm} {b : Nat} (h : CW G b) : CV G b (fun j k => (G.1 (cA G b j) k).toInt) := ⟨h, fun j _ k => (jI_of _).symm⟩
/-- two alarms change their places -/
def vsw (v : Nat → Nat → Int) (i j : Nat) : Nat → Nat → Int := fun m => if m = 2 + i then v (2 + j) else if m = 2 + j then v (2 + i) else v m
theorem CV.sw {G : Mm} {b : Nat} {v : Nat → Nat → Int} (h : CV G b v) {i j : Nat} (hi : i < 20) (hj : j < 20) (hn : i ≠ j) : CV (wR (wR G (b + 1) i (G.2 (b + 1) j)) (b + 1) j (G.2 (b + 1) i)) b (vsw v i j) := by
  have e1 : ∀ m, (wR (wR G (b + 1) i (G.2 (b + 1) j)) (b + 1) j (G.2 (b + 1) i)).2 (b + 1) m = if m = j then G.2 (b + 1) i else if m = i then G.2 (b + 1) j else G.2 (b + 1) m := by
    intro m
    show (if b + 1 = b + 1 ∧ m = j then _ else if b + 1 = b + 1 ∧ m = i then _ else _) = _
    simp
  have e2 : ∀ a, a ≠ b + 1 → (wR (wR G (b + 1) i (G.2 (b + 1) j)) (b + 1) j (G.2 (b + 1) i)).2 a = G.2 a := by
    intro a ha
    funext m
    show (if a = b + 1 ∧ m = j then _ else if a = b + 1 ∧ m = i then _ else _) = _
    simp [ha]
  obtain ⟨⟨h1, h2, h3, h4, h5, h6, h7, h8⟩, hv⟩ := h
  have hw : CW (wR (wR G (b + 1) i (G.2 (b + 1) j)) (b + 1) j (G.2 (b + 1) i)) b := by
    refine ⟨by rw [e2 b (by omega)]; exact h1, by rw [e2 b (by omega)]; exact h2, by rw [e2 b (by omega)]; exact h3, by rw [e2 b (by omega)]; exact h4, by rw [e2 _ (by omega)]; exact h5, by rw [e2 _ (by omega)]; exact h6, fun m hm => ?_, fun m q hm hq he => ?_⟩
    · rw [e1]
      split
      · exact h7 i hi
      · split
        · exact h7 j hj
        · exact h7 m hm
    · rw [e1, e1] at he
      split at he
      · split at he
        · omega
        · split at he
          · have := h8 i j hi hj he; omega
          · have := h8 i q hi hq he; omega
      · split at he
        · split at he
          · have := h8 j i hj hi he; omega
          · split at he
            · omega
            · have := h8 j q hj hq he; omega
        · split at he
          · have := h8 m i hm hi he; omega
          · split at he
            · have := h8 m j hm hj he; omega
            · exact h8 m q hm hq he
  refine ⟨hw, fun m hm k => ?_⟩
  show G.1 (cA _ b m) k = jI (vsw v i j m k)
  unfold cA vsw
  by_cases ha : 2 ≤ m ∧ m < 22
  · rw [if_pos ha, e1]
    by_cases hmj : m - 2 = j
    · rw [if_pos hmj, if_neg (by omega), if_pos (by omega)]
      have := hv (2 + i) (by omega) k
      rwa [cA_al hi] at this
    · rw [if_neg hmj]
      by_cases hmi : m - 2 = i
      · rw [if_pos hmi, if_pos (by omega)]
        have := hv (2 + j) (by omega) k
        rwa [cA_al hj] at this
      · rw [if_neg hmi, if_neg (by omega), if_neg (by omega)]
        have := hv m hm k
        unfold cA at this
        rwa [if_pos ha] at this
  · rw [if_neg ha, if_neg (by omega), if_neg (by omega)]
    have := hv m hm k
    unfold cA at this
    rwa [if_neg ha] at this

