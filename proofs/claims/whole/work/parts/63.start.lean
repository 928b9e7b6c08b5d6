/-! ===== both objects, fresh: the first state ===== -/
def lkd (i : Nat) : Nat := if i < 218 then skd i else if i = 218 then 8 else if i < 221 then 16 else if i = 221 then 17 else if i = 222 then 16 else if i = 223 then 12 else 18
def kdl (B : Nat) : Nat → Nat := fun a => lkd (a - B)
def LL (B : Nat) : List Nat := (List.range 225).map (fun i => B + i)
theorem kdl_at (B i : Nat) : kdl B (B + i) = lkd i := by
  show lkd (B + i - B) = lkd i
  rw [show B + i - B = i by omega]
theorem LL_in {B a : Nat} : a ∈ LL B ↔ ∃ i, i < 225 ∧ a = B + i := by
  unfold LL
  rw [List.mem_map]
  constructor
  · rintro ⟨i, hi, rfl⟩; exact ⟨i, List.mem_range.mp hi, rfl⟩
  · rintro ⟨i, hi, rfl⟩; exact ⟨i, List.mem_range.mpr hi, rfl⟩
theorem lkd_s {i : Nat} (h : i < 218) : lkd i = skd i := if_pos h
def M0 : Ms := (fun k => if k = 7 then 2 else 0, [], fun _ k => if k = 0 then -1005 else 0, [])
def Z0 : Zst := (M0, none, [], fun _ => 0, 0)
theorem M0_GI {T K : Int} (hT : 0 ≤ T ∧ T ≤ 100000000) (hK : 0 ≤ K ∧ K ≤ 10000000) : GI M0 T K := by
  refine ⟨⟨?_, by decide, List.Pairwise.nil, fun a ha => (by cases ha), fun c hc => ⟨fun ⟨a, ha, _⟩ => (by cases ha), fun _ => ⟨rfl, rfl⟩⟩⟩, Or.inl (fun a ha => by cases ha), by show (0 : Int) ≤ 99999; decide⟩
  unfold SI
  show (0 ≤ (0 : Int) ∧ (0 : Int) ≤ T) ∧ (0 ≤ (0 : Int) ∧ (0 : Int) ≤ K) ∧ (-999 ≤ (0 : Int) ∧ (0 : Int) ≤ 999) ∧ (0 ≤ (0 : Int) ∧ (0 : Int) ≤ 20) ∧ (0 ≤ (0 : Int) ∧ (0 : Int) ≤ 9) ∧ (0 ≤ (0 : Int) ∧ (0 : Int) ≤ 500) ∧ (1 ≤ (2 : Int) ∧ (2 : Int) ≤ 4) ∧ (0 ≤ (0 : Int) ∧ (0 : Int) ≤ T) ∧ (0 ≤ (0 : Int) ∧ (0 : Int) ≤ 80 * K) ∧ ((0 : Nat) : Int) = min 8 (0 : Int) ∧ T ≤ 100000000 ∧ K ≤ 10000000
  omega
theorem Z0_ZI {T K : Int} (hT : 0 ≤ T ∧ T ≤ 100000000) (hK : 0 ≤ K ∧ K ≤ 10000000) : ZI Z0 T K := ⟨M0_GI hT hK, fun M h => (by cases h), fun M h => (by cases h)⟩
-- a chip's cells
theorem ini_CW {kd : Nat → Nat} {nw b : Nat} (hk : ∀ i, i < 30 → kd (b + i) = ckd i) : CW (ini kd nw) b := by
  have g : ∀ i, i < 30 → ∀ k, (ini kd nw).2 (b + i) k = b + i + roff (ckd i) k := fun i hi k => ini_2 (hk i hi) k
  have g0 : ∀ k, (ini kd nw).2 b k = b + roff 2 k := fun k => ini_2 (hk 0 (by decide)) k
  refine ⟨by rw [g0]; rfl, by rw [g0]; rfl, by rw [g0]; rfl, by rw [g0]; rfl, by rw [g 28 (by decide)]; rfl, fun c hc => ?_, fun i hi => ?_, fun i j hi hj he => ?_⟩
  · rw [g 22 (by decide)]
    show b + 22 + (1 + c) = b + 23 + c
    omega
  · rw [g 1 (by decide)]
    show b + 2 ≤ b + 1 + (1 + i) ∧ b + 1 + (1 + i) < b + 22
    omega
  · rw [g 1 (by decide), g 1 (by decide)] at he
    have he : b + 1 + (1 + i) = b + 1 + (1 + j) := he
    omega
theorem ckd_2 {j : Nat} : ckd j = 2 ↔ j = 0 := by
  unfold ckd
  constructor
  · intro h
    split at h
    · assumption
    · split at h
      · omega
      · split at h
        · omega
        · split at h
          · omega
          · split at h
            · omega
            · split at h
              · omega
              · split at h <;> omega
  · intro h; rw [if_pos h]
theorem ini_CV {kd : Nat → Nat} {nw b : Nat} (hk : ∀ i, i < 30 → kd (b + i) = ckd i) (hn : nw < b ∨ b + 30 ≤ nw) : CV (ini kd nw) b (fun j k => if j = 0 ∧ k = 7 then 2 else 0) := by
  refine ⟨ini_CW hk, fun j hj k => ?_⟩
  have e : cA (ini kd nw) b j = b + j := by
    unfold cA
    split
    · next h =>
      rw [ini_2 (hk 1 (by decide))]
      show b + 1 + (1 + (j - 2)) = b + j
      omega
    · rfl
  rw [e, ini_1 (hk j hj) (by omega)]
  show _ = jI (if j = 0 ∧ k = 7 then 2 else 0)
  by_cases h : j = 0 ∧ k = 7
  · rw [if_pos ⟨ckd_2.mpr h.1, h.2⟩, if_pos h]; rfl
  · rw [if_neg (fun q => h ⟨ckd_2.mp q.1, q.2⟩), if_neg h]; rfl
theorem M0_RepC : RepC (fun j k => if j = 0 ∧ k = 7 then 2 else 0) M0 := by
  refine ⟨⟨rfl, fun k hk hk5 => ?_, fun k hk => ?_, rfl⟩, ⟨List.Perm.nil, fun i hi => by cases hi⟩, fun i j hij hj => (by cases hj), fun c hc => ⟨fun ⟨a, ha, _⟩ => (by cases ha), fun _ k hk => ?_⟩, fun j e he => (by cases he)⟩
  · show (if 0 = 0 ∧ k = 7 then (2 : Int) else 0) = if k = 7 then 2 else 0
    by_cases h : k = 7
    · rw [if_pos ⟨rfl, h⟩, if_pos h]
    · rw [if_neg (fun q => h q.2), if_neg h]
  · show (if 27 = 0 ∧ k = 7 then (2 : Int) else 0) = if 8 + k = 7 then 2 else 0
    rw [if_neg (by omega), if_neg (by omega)]
  · show (if 23 + c = 0 ∧ k = 7 then (2 : Int) else 0) = 0
    rw [if_neg (by omega)]
theorem ini_SysC (B : Nat) : SysC (ini (kdl B) (B + 219)) B Z0 := by
  have hs : ∀ i, i < 218 → kdl B (B + i) = skd i := fun i hi => by rw [kdl_at, lkd_s hi]
  have cB : ∀ c, c = 1 ∨ c = 31 ∨ c = 61 → ∀ i, i < 30 → kdl B (B + c + i) = ckd i := fun c hc i hi => by
    rw [Nat.add_assoc, hs (c + i) (by omega)]
    unfold skd
    rw [if_neg (by omega), if_pos (by omega), show (c + i - 1) % 30 = i by omega]
  have cH : ∀ j, j < 4 → ∀ i, i < 30 → kdl B (B + 91 + 2 + 30 * j + i) = ckd i := fun j hj i hi => by
    rw [show B + 91 + 2 + 30 * j + i = B + (93 + 30 * j + i) by omega, hs (93 + 30 * j + i) (by omega)]
    unfold skd
    rw [if_neg (by omega), if_neg (by omega), if_neg (by omega), if_neg (by omega), if_pos (by omega), show (93 + 30 * j + i - 93) % 30 = i by omega]
  have g : ∀ i, i < 218 → ∀ k, (ini (kdl B) (B + 219)).2 (B + i) k = B + i + roff (skd i) k := fun i hi k => ini_2 (hs i hi) k
  have g0 : ∀ k, (ini (kdl B) (B + 219)).2 B k = B + roff 7 k := fun k => ini_2 (hs 0 (by decide)) k
  have n1 : ∀ i, i < 218 → ∀ k, (ini (kdl B) (B + 219)).1 (B + i) k = if skd i = 2 ∧ k = 7 then 2 else 0 := fun i hi k => ini_1 (hs i hi) (by omega) k
  refine ⟨⟨by rw [g0]; rfl, by rw [g0]; rfl, by rw [g0]; rfl, by rw [g0]; rfl, by rw [g0]; rfl⟩, ?_, ?_, ?_, ?_, ?_, ?_⟩
  · exact (n1 0 (by decide) 5).trans rfl
  · exact ⟨_, ini_CV (cB 1 (by omega)) (by omega), fun M hM => by cases hM; exact ⟨M0_RepC, by decide⟩⟩
  · exact ⟨_, ini_CV (cB 31 (by omega)) (by omega), fun M hM => by cases hM⟩
  · exact ⟨_, ini_CV (cB 61 (by omega)) (by omega), fun M hM => by cases hM⟩
  · refine ⟨fun i => i, by rw [g 91 (by decide)]; rfl, fun i hi => ⟨hi, ?_⟩, fun i j _ _ h => h, ?_, by decide, fun i hi => ?_⟩
    · rw [Nat.add_assoc, g 92 (by decide)]
      show B + 92 + (1 + 30 * i) = B + 91 + 2 + 30 * i
      omega
    · rw [n1 91 (by decide)]; rfl
    · exact ⟨_, ini_CV (cH i hi) (by dsimp only; omega), fun M hM => by simp [Z0] at hM⟩
  · exact ⟨⟨by rw [g 213 (by decide)]; rfl, by rw [g 213 (by decide)]; rfl, by rw [g 213 (by decide)]; rfl, by rw [g 213 (by decide)]; rfl⟩, by rw [n1 213 (by decide)]; rfl, by decide, fun i hi => by cases hi⟩
theorem M0_RepR : RepR (fun k => (nwv k).toInt) M0 := by
  refine ⟨⟨rfl, fun m hm hm2 => ?_⟩, ⟨List.Perm.nil, fun i j hij hj => by cases hj⟩, fun c hc => ?_, rfl, fun j e he => by cases he⟩
  · rcases (show m = 0 ∨ m = 1 ∨ m = 3 ∨ m = 4 ∨ m = 5 ∨ m = 6 ∨ m = 7 ∨ m = 8 ∨ m = 9 ∨ m = 10 ∨ m = 11 ∨ m = 12 ∨ m = 13 by omega) with rfl | rfl | rfl | rfl | rfl | rfl | rfl | rfl | rfl | rfl | rfl | rfl | rfl <;> rfl
  · rcases (show c = 0 ∨ c = 1 ∨ c = 2 ∨ c = 3 by omega) with rfl | rfl | rfl | rfl <;> exact ⟨rfl, rfl⟩
theorem ini_SysR (B : Nat) : SysR (ini (kdl B) (B + 219)) (B + 218) Z0 := by
  have g : ∀ k, (ini (kdl B) (B + 219)).2 (B + 218) k = B + 218 + roff 8 k := fun k => ini_2 (kdl_at B 218) k
  have n1 : ∀ i, i < 225 → i ≠ 219 → lkd i ≠ 2 → ∀ k, (ini (kdl B) (B + 219)).1 (B + i) k = 0 := fun i hi h9 h2 k => by
    rw [ini_1 (kdl_at B i) (by omega), if_neg (fun q => h2 q.1)]
  refine ⟨⟨by rw [g]; rfl, by rw [g]; rfl, by rw [g]; rfl⟩, by rw [n1 218 (by decide) (by decide) (by decide)]; rfl, ?_, fun M hM => (by cases hM), ⟨by rw [g]; rfl, by rw [n1 218 (by decide) (by decide) (by decide)]; rfl, by decide, fun i N hN => (by cases hN)⟩, ⟨by rw [g]; rfl, by rw [g]; rfl⟩, by rw [n1 218 (by decide) (by decide) (by decide)]; rfl, by decide, fun i hi => by cases hi⟩
  intro M hM
  cases hM
  refine ⟨⟨_, fun k => ?_, M0_RepR⟩, by decide, by decide⟩
  rw [jI_of]
  show (if B + 218 + 1 = B + 219 then nwv k else _) = nwv k
  rw [if_pos rfl]
-- the two apart
theorem SysC.offR {G G' : Mm} {A n B : Nat} {Z : Zst} (h : SysC G B Z) (hf : FR A n G G') (ho : B + 218 ≤ A) : SysC G' B Z := by
  obtain ⟨h1, h2, h3, h4, h5, h6, h7⟩ := h
  exact ⟨by rw [(hf B (by omega)).2]; exact h1, by rw [(hf B (by omega)).1]; exact h2, h3.off hf (by omega), h4.off hf (by omega), h5.off hf (by omega), h6.off hf (by omega), h7.off hf (by omega)⟩
theorem SysR.offC {G G' : Mm} {A n B : Nat} {Z : Zst} (h : SysR G A Z) (hf : FR B n G G') (ho : B + n ≤ A) : SysR G' A Z := by
  have e : ∀ q, A ≤ q → G'.1 q = G.1 q ∧ G'.2 q = G.2 q := fun q hq => hf q (by omega)
  obtain ⟨h1, h2, h3, h4, ⟨p1, p2, p3, p4⟩, ⟨t1, t2, t3, t4⟩⟩ := h
  refine ⟨by rw [(e A (by omega)).2]; exact h1, by rw [(e A (by omega)).1]; exact h2, h3.fr (e _ (by omega)).1, h4.fr (e _ (by omega)).1, ⟨by rw [(e A (by omega)).2]; exact p1, by rw [(e A (by omega)).1]; exact p2, p3, fun i M hi => ?_⟩, ⟨by rw [(e A (by omega)).2]; exact t1, by rw [(e A (by omega)).1]; exact t2, t3, fun i hi => by rw [(e (A + 5) (by omega)).1]; exact t4 i hi⟩⟩
  obtain ⟨⟨f, g1, g2⟩, g3⟩ := p4 i M hi
  exact ⟨⟨f, fun k hk => by rw [(e (A + 3) (by omega)).1]; exact g1 k hk, g2⟩, g3⟩
-- every reference points at what is declared
def wtb (i j : Nat) : Bool := match dp_rt (lkd i) j with
  | none => true
  | some u => Nat.blt (i + roff (lkd i) j) 225 && Nat.beq (lkd (i + roff (lkd i) j)) u
theorem wtb_all : (List.range 225).all (fun i => (List.range 30).all (fun j => wtb i j)) = true := by decide +kernel
theorem dp_rt_lt {t j u : Nat} (h : dp_rt t j = some u) : j < 30 := by
  unfold dp_rt at h
  split at h
  · unfold dp_fr at h
    split at h <;> first | omega | cases h
  · split at h
    · next h2 =>
      have h3 : dp_al t ≤ 20 ∨ 9 ≤ dp_ak t ∨ dp_ak t < 2 := by
        unfold dp_al dp_ak
        split <;> simp
      omega
    · cases h
theorem ini_WT (B : Nat) : dp_WT (LL B) (kdl B) (ini (kdl B) (B + 219)) := by
  intro a ha j u hu
  obtain ⟨i, hi, rfl⟩ := LL_in.mp ha
  rw [kdl_at] at hu
  have hj := dp_rt_lt hu
  have hb : wtb i j = true := List.all_eq_true.mp (List.all_eq_true.mp wtb_all i (List.mem_range.mpr hi)) j (List.mem_range.mpr hj)
  unfold wtb at hb
  rw [hu] at hb
  simp only [Bool.and_eq_true] at hb
  have h1 : i + roff (lkd i) j < 225 := by simpa [Nat.blt_eq] using hb.1
  have h2 := Nat.eq_of_beq_eq_true hb.2
  rw [ini_2 (kdl_at B i), Nat.add_assoc]
  exact ⟨LL_in.mpr ⟨_, h1, rfl⟩, by rw [kdl_at]; exact h2⟩
-- the world
theorem LL_D {B : Nat} {f : Nat → va_E} : va_D (fun q => q ∈ LL B) (va_pl (LL B) f) := by
  have e : ∀ (i : Nat) (p : Nat × va_E), (va_pl (LL B) f)[i]? = some p → i < 225 ∧ p.1 = B + i := by
    intro i p hp
    unfold va_pl LL at hp
    rw [List.map_map, List.getElem?_map, Option.map_eq_some_iff] at hp
    obtain ⟨k, hk, rfl⟩ := hp
    have hlt : i < 225 := by have := (List.getElem?_eq_some_iff.mp hk).1; rwa [List.length_range] at this
    rw [List.getElem?_range hlt] at hk
    exact ⟨hlt, by rw [← Option.some.inj hk]; rfl⟩
  refine ⟨fun i j p q hp hq hpq => ?_, fun k q hq => ?_⟩
  · have h1 := e i p hp
    have h2 := e j q hq
    omega
  · have h1 := e k q hq
    exact LL_in.mpr ⟨k, h1.1, h1.2⟩
theorem LL_P {D : va_G} {B : Nat} {f : Nat → va_E} {H : Heap} (h : cx_W D B 225 f H) : va_P D vwCl (va_pl (LL B) f) H := by
  intro k q hq
  have hm := List.mem_of_getElem? hq
  unfold va_pl at hm
  obtain ⟨a, ha, rfl⟩ := List.mem_map.mp hm
  obtain ⟨i, hi, rfl⟩ := LL_in.mp ha
  exact h.2 (B + i) (by omega) (by omega)
theorem chr_b (x : Int32) : ∃ c : Int, (x.toUInt32 % 65536).toInt32 = jI c ∧ 0 ≤ c ∧ c ≤ 65535 := by
  refine ⟨((x.toUInt32 % 65536).toNat : Int), ?_, by omega, ?_⟩
  · have h := UInt32.toInt32_ofNat' (n := (x.toUInt32 % 65536).toNat)
    rw [UInt32.ofNat_toNat] at h
    rw [h]
    exact (Int32.ofInt_eq_ofNat).symm
  · have h : (x.toUInt32 % 65536).toNat = x.toUInt32.toNat % 65536 := UInt32.toNat_mod x.toUInt32 65536
    omega
