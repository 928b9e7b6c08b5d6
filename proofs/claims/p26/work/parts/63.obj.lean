/-! ===== an object, fresh: its cells, its first state ===== -/
def kdo (B : Nat) : Nat → Nat := fun a => skd (a - B)
def LA (B : Nat) : List Nat := (List.range 218).map (fun i => B + i)
theorem kdo_at (B i : Nat) : kdo B (B + i) = skd i := by
  show skd (B + i - B) = skd i
  rw [show B + i - B = i by omega]
theorem LA_in {B a : Nat} : a ∈ LA B ↔ ∃ i, i < 218 ∧ a = B + i := by
  unfold LA
  rw [List.mem_map]
  constructor
  · rintro ⟨i, hi, rfl⟩; exact ⟨i, List.mem_range.mp hi, rfl⟩
  · rintro ⟨i, hi, rfl⟩; exact ⟨i, List.mem_range.mpr hi, rfl⟩
theorem LA_ge {B a : Nat} (h : a ∈ LA B) : B ≤ a ∧ a < B + 218 := by
  obtain ⟨i, hi, rfl⟩ := LA_in.mp h
  omega
def M0 : Ms := (fun k => if k = 7 then 2 else 0, [], fun _ k => if k = 0 then -1005 else 0, [])
def Z0 : Zst := (M0, none, [], fun _ => 0, 0)
theorem M0_GI {T K : Int} (hT : 0 ≤ T ∧ T ≤ 100000000) (hK : 0 ≤ K ∧ K ≤ 10000000) : GI M0 T K := by
  refine ⟨⟨?_, by decide, List.Pairwise.nil, fun a ha => (by cases ha), fun c hc => ⟨fun ⟨a, ha, _⟩ => (by cases ha), fun _ => ⟨rfl, rfl⟩⟩⟩, Or.inl (fun a ha => by cases ha), by show (0 : Int) ≤ 99999; decide⟩
  unfold SI
  show (0 ≤ (0 : Int) ∧ (0 : Int) ≤ T) ∧ (0 ≤ (0 : Int) ∧ (0 : Int) ≤ K) ∧ (-999 ≤ (0 : Int) ∧ (0 : Int) ≤ 999) ∧ (0 ≤ (0 : Int) ∧ (0 : Int) ≤ 20) ∧ (0 ≤ (0 : Int) ∧ (0 : Int) ≤ 9) ∧ (0 ≤ (0 : Int) ∧ (0 : Int) ≤ 500) ∧ (1 ≤ (2 : Int) ∧ (2 : Int) ≤ 4) ∧ (0 ≤ (0 : Int) ∧ (0 : Int) ≤ T) ∧ (0 ≤ (0 : Int) ∧ (0 : Int) ≤ 80 * K) ∧ ((0 : Nat) : Int) = min 8 (0 : Int) ∧ T ≤ 100000000 ∧ K ≤ 10000000
  omega
theorem Z0_ZI {T K : Int} (hT : 0 ≤ T ∧ T ≤ 100000000) (hK : 0 ≤ K ∧ K ≤ 10000000) : ZI Z0 T K := ⟨M0_GI hT hK, fun M h => (by cases h), fun M h => (by cases h)⟩
-- a chip's cells
theorem ini_CW {kd : Nat → Nat} {nw b : Nat} (hk : ∀ i, i < 30 → kd (b + i) = ckd i) : CW (ini kd nw) b := by
  have g : ∀ i, i < 30 → ∀ k, (ini kd nw).2 (b + i) k = b + i + roff (ckd i) k := fun i hi k => ini_2 (hk i hi) k
  have g0 : ∀ k, (ini kd nw).2 b k = b + roff 2 k := fun k => ini_2 (hk 0 (by decide)) k
  refine ⟨by rw [g0]; rfl, by rw [g0]; rfl, by rw [g0]; rfl, by rw [g0]; rfl, by rw [g 28 (by decide)]; rfl, fun c hc => ?_, fun i hi => ?_, fun i j hi hj he => ?_⟩
  · rw [g 22 (by decide)]
    show b + 22 + (1 + c) = b + 23 + c
    omega
  · rw [g 1 (by decide)]
    show b + 2 ≤ b + 1 + (1 + i) ∧ b + 1 + (1 + i) < b + 22
    omega
  · rw [g 1 (by decide), g 1 (by decide)] at he
    have he : b + 1 + (1 + i) = b + 1 + (1 + j) := he
    omega
theorem ckd_2 {j : Nat} : ckd j = 2 ↔ j = 0 := by
  unfold ckd
  constructor
  · intro h
    split at h
    · assumption
    · split at h
      · omega
      · split at h
        · omega
        · split at h
          · omega
          · split at h
            · omega
            · split at h
              · omega
              · split at h <;> omega
  · intro h; rw [if_pos h]
theorem ini_CV {kd : Nat → Nat} {nw b : Nat} (hk : ∀ i, i < 30 → kd (b + i) = ckd i) (hn : nw < b ∨ b + 30 ≤ nw) : CV (ini kd nw) b (fun j k => if j = 0 ∧ k = 7 then 2 else 0) := by
  refine ⟨ini_CW hk, fun j hj k => ?_⟩
  have e : cA (ini kd nw) b j = b + j := by
    unfold cA
    split
    · next h =>
      rw [ini_2 (hk 1 (by decide))]
      show b + 1 + (1 + (j - 2)) = b + j
      omega
    · rfl
  rw [e, ini_1 (hk j hj) (by omega)]
  show _ = jI (if j = 0 ∧ k = 7 then 2 else 0)
  by_cases h : j = 0 ∧ k = 7
  · rw [if_pos ⟨ckd_2.mpr h.1, h.2⟩, if_pos h]; rfl
  · rw [if_neg (fun q => h ⟨ckd_2.mp q.1, q.2⟩), if_neg h]; rfl
theorem M0_RepC : RepC (fun j k => if j = 0 ∧ k = 7 then 2 else 0) M0 := by
  refine ⟨⟨rfl, fun k hk hk5 => ?_, fun k hk => ?_, rfl⟩, ⟨List.Perm.nil, fun i hi => by cases hi⟩, fun i j hij hj => (by cases hj), fun c hc => ⟨fun ⟨a, ha, _⟩ => (by cases ha), fun _ k hk => ?_⟩, fun j e he => (by cases he)⟩
  · show (if 0 = 0 ∧ k = 7 then (2 : Int) else 0) = if k = 7 then 2 else 0
    by_cases h : k = 7
    · rw [if_pos ⟨rfl, h⟩, if_pos h]
    · rw [if_neg (fun q => h q.2), if_neg h]
  · show (if 27 = 0 ∧ k = 7 then (2 : Int) else 0) = if 8 + k = 7 then 2 else 0
    rw [if_neg (by omega), if_neg (by omega)]
  · show (if 23 + c = 0 ∧ k = 7 then (2 : Int) else 0) = 0
    rw [if_neg (by omega)]
theorem ini_SysC (B : Nat) : SysC (ini (kdo B) (B + 218)) B Z0 := by
  have hs : ∀ i, i < 218 → kdo B (B + i) = skd i := fun i _ => kdo_at B i
  have cB : ∀ c, c = 1 ∨ c = 31 ∨ c = 61 → ∀ i, i < 30 → kdo B (B + c + i) = ckd i := fun c hc i hi => by
    rw [Nat.add_assoc, hs (c + i) (by omega)]
    unfold skd
    rw [if_neg (by omega), if_pos (by omega), show (c + i - 1) % 30 = i by omega]
  have cH : ∀ j, j < 4 → ∀ i, i < 30 → kdo B (B + 91 + 2 + 30 * j + i) = ckd i := fun j hj i hi => by
    rw [show B + 91 + 2 + 30 * j + i = B + (93 + 30 * j + i) by omega, hs (93 + 30 * j + i) (by omega)]
    unfold skd
    rw [if_neg (by omega), if_neg (by omega), if_neg (by omega), if_neg (by omega), if_pos (by omega), show (93 + 30 * j + i - 93) % 30 = i by omega]
  have g : ∀ i, i < 218 → ∀ k, (ini (kdo B) (B + 218)).2 (B + i) k = B + i + roff (skd i) k := fun i hi k => ini_2 (hs i hi) k
  have g0 : ∀ k, (ini (kdo B) (B + 218)).2 B k = B + roff 7 k := fun k => ini_2 (hs 0 (by decide)) k
  have n1 : ∀ i, i < 218 → ∀ k, (ini (kdo B) (B + 218)).1 (B + i) k = if skd i = 2 ∧ k = 7 then 2 else 0 := fun i hi k => ini_1 (hs i hi) (by omega) k
  refine ⟨⟨by rw [g0]; rfl, by rw [g0]; rfl, by rw [g0]; rfl, by rw [g0]; rfl, by rw [g0]; rfl⟩, ?_, ?_, ?_, ?_, ?_, ?_⟩
  · exact (n1 0 (by decide) 5).trans rfl
  · exact ⟨_, ini_CV (cB 1 (by omega)) (by omega), fun M hM => by cases hM; exact ⟨M0_RepC, by decide⟩⟩
  · exact ⟨_, ini_CV (cB 31 (by omega)) (by omega), fun M hM => by cases hM⟩
  · exact ⟨_, ini_CV (cB 61 (by omega)) (by omega), fun M hM => by cases hM⟩
  · refine ⟨fun i => i, by rw [g 91 (by decide)]; rfl, fun i hi => ⟨hi, ?_⟩, fun i j _ _ h => h, ?_, by decide, fun i hi => ?_⟩
    · rw [Nat.add_assoc, g 92 (by decide)]
      show B + 92 + (1 + 30 * i) = B + 91 + 2 + 30 * i
      omega
    · rw [n1 91 (by decide)]; rfl
    · exact ⟨_, ini_CV (cH i hi) (by dsimp only; omega), fun M hM => by simp [Z0] at hM⟩
  · exact ⟨⟨by rw [g 213 (by decide)]; rfl, by rw [g 213 (by decide)]; rfl, by rw [g 213 (by decide)]; rfl, by rw [g 213 (by decide)]; rfl⟩, by rw [n1 213 (by decide)]; rfl, by decide, fun i hi => by cases hi⟩
-- every reference points at what is declared
def wtb (i j : Nat) : Bool := match dp_rt (skd i) j with
  | none => true
  | some u => Nat.blt (i + roff (skd i) j) 218 && Nat.beq (skd (i + roff (skd i) j)) u
theorem wtb_all : (List.range 218).all (fun i => (List.range 30).all (fun j => wtb i j)) = true := by decide +kernel
theorem dp_rt_lt {t j u : Nat} (h : dp_rt t j = some u) : j < 30 := by
  unfold dp_rt at h
  split at h
  · unfold dp_fr at h
    split at h <;> first | omega | cases h
  · split at h
    · next h2 =>
      have h3 : dp_al t ≤ 20 ∨ 9 ≤ dp_ak t ∨ dp_ak t < 2 := by
        unfold dp_al dp_ak
        split <;> simp
      omega
    · cases h
theorem ini_WT (B : Nat) : dp_WT (LA B) (kdo B) (ini (kdo B) (B + 218)) := by
  intro a ha j u hu
  obtain ⟨i, hi, rfl⟩ := LA_in.mp ha
  rw [kdo_at] at hu
  have hj := dp_rt_lt hu
  have hb : wtb i j = true := List.all_eq_true.mp (List.all_eq_true.mp wtb_all i (List.mem_range.mpr hi)) j (List.mem_range.mpr hj)
  unfold wtb at hb
  rw [hu] at hb
  simp only [Bool.and_eq_true] at hb
  have h1 : i + roff (skd i) j < 218 := by simpa [Nat.blt_eq] using hb.1
  have h2 := Nat.eq_of_beq_eq_true hb.2
  rw [ini_2 (kdo_at B i), Nat.add_assoc]
  exact ⟨LA_in.mpr ⟨_, h1, rfl⟩, by rw [kdo_at]; exact h2⟩
theorem LA_D {B : Nat} {f : Nat → va_E} : va_D (fun q => q ∈ LA B) (va_pl (LA B) f) := by
  have e : ∀ (i : Nat) (p : Nat × va_E), (va_pl (LA B) f)[i]? = some p → i < 218 ∧ p.1 = B + i := by
    intro i p hp
    unfold va_pl LA at hp
    rw [List.map_map, List.getElem?_map, Option.map_eq_some_iff] at hp
    obtain ⟨k, hk, rfl⟩ := hp
    have hlt : i < 218 := by have := (List.getElem?_eq_some_iff.mp hk).1; rwa [List.length_range] at this
    rw [List.getElem?_range hlt] at hk
    exact ⟨hlt, by rw [← Option.some.inj hk]; rfl⟩
  refine ⟨fun i j p q hp hq hpq => ?_, fun k q hq => ?_⟩
  · have h1 := e i p hp
    have h2 := e j q hq
    omega
  · have h1 := e k q hq
    exact LA_in.mpr ⟨k, h1.1, h1.2⟩
theorem LA_P {D : va_G} {B : Nat} {f : Nat → va_E} {H : Heap} (h : cx_W D B 218 f H) : va_P D vwCl (va_pl (LA B) f) H := by
  intro k q hq
  have hm := List.mem_of_getElem? hq
  unfold va_pl at hm
  obtain ⟨a, ha, rfl⟩ := List.mem_map.mp hm
  obtain ⟨i, hi, rfl⟩ := LA_in.mp ha
  exact h.2 (B + i) (by omega) (by omega)
theorem chr_b (x : Int32) : ∃ c : Int, (x.toUInt32 % 65536).toInt32 = jI c ∧ 0 ≤ c ∧ c ≤ 65535 := by
  refine ⟨((x.toUInt32 % 65536).toNat : Int), ?_, by omega, ?_⟩
  · have h := UInt32.toInt32_ofNat' (n := (x.toUInt32 % 65536).toNat)
    rw [UInt32.ofNat_toNat] at h
    rw [h]
    exact (Int32.ofInt_eq_ofNat).symm
  · have h : (x.toUInt32 % 65536).toNat = x.toUInt32.toNat % 65536 := UInt32.toNat_mod x.toUInt32 65536
    omega
