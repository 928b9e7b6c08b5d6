/-! ===== the small machine and the machine: values, memory, contexts; each instruction's row ===== -/
def dp_tv : Vl → Value
  | .inl x => .int x
  | .inr r => .ref r.2
theorem dp_tv1 (v : Vl) : (dp_tv v).category = 1 := by cases v <;> rfl
def dp_ok (L : List Nat) (kd : Nat → Nat) : Vl → Prop
  | .inl _ => True
  | .inr r => r.2 ∈ L ∧ kd r.2 = r.1
def dp_as : Nat → dp_Lo → List (Nat × Value)
  | _, [] => []
  | i, none :: l => dp_as (i + 1) l
  | i, some v :: l => (i, dp_tv v) :: dp_as (i + 1) l
def dp_rt (t j : Nat) : Option Nat := if t < 9 then dp_fr t j else if 2 ≤ dp_ak t ∧ dp_ak t < 9 ∧ j < dp_al t then some (dp_et t) else none
/-- every reference of the memory points at a cell of the kind that is declared -/
def dp_WT (L : List Nat) (kd : Nat → Nat) (G : Mm) : Prop := ∀ a, a ∈ L → ∀ j u, dp_rt (kd a) j = some u → G.2 a j ∈ L ∧ kd (G.2 a j) = u
def dp_fv (t j : Nat) (x : Int32) (b : Nat) : Value := match dp_fr t j with
  | none => .int x
  | some _ => .ref b
def dp_ce (aC kd : Nat → Nat) (G : Mm) (a : Nat) : va_E :=
  if kd a < 9 then .inr (kd a, (List.range (dp_nf (kd a))).map (fun j => dp_fv (kd a) j (G.1 a j) (G.2 a j)))
  else .inl (aC (dp_ak (kd a)), dp_al (kd a), if dp_ak (kd a) < 2 then .inl (G.1 a) else .inr (.inr (.inr (.inr (fun i => some (G.2 a i))))))
def dp_tys (aC : Nat → Nat) : List (ClassId × FieldType) := [(aC 0, .int), (aC 1, .char), (aC 2, .object RX0), (aC 3, .object RX3), (aC 4, .object RX2)]
def lw_tb2 : List Cond := lw_tbl.filter goodWord
theorem dp_w2 {w : Cond} (h : w ∈ lw_tbl) (hg : goodWord w = true) : w ∈ lw_tb2 := List.mem_filter.mpr ⟨h, hg⟩
def dp_isN : Cond → Bool
  | .fieldLinkNest _ _ _ _ _ _ => true
  | .methodLinkNest _ _ _ _ => true
  | _ => false
def lw_nw : List Cond := lw_tbl.filter dp_isN
theorem dp_wn {w : Cond} (h : w ∈ lw_tbl) (hg : dp_isN w = true) : w ∈ lw_nw := List.mem_filter.mpr ⟨h, hg⟩
/-- the links between nest mates -/
def dp_N (U : State) : Prop := ∀ w, w ∈ lw_nw → va_Nw w U
theorem dp_N_warm {s U : State} (hW : s.WarmedH U.vm) (h : dp_N s) : dp_N U := by
  intro w hw
  have hn := (List.mem_filter.mp hw).2
  have h1 := h w hw
  revert hn h1
  cases w <;> intro hn h1 <;> first | exact va_Nw.warmF hW h1 | exact va_Nw.warmM hW h1 | exact Bool.noConfusion (show false = true from hn)
theorem dp_N_same {s U : State} (hv : s.vm = U.vm) (h : dp_N s) : dp_N U := by
  intro w hw
  have hn := (List.mem_filter.mp hw).2
  have h1 := h w hw
  revert hn h1
  cases w <;> intro hn h1 <;> first | exact va_Nw.same rfl hv h1 | exact Bool.noConfusion (show false = true from hn)
theorem dp_N_use {s : State} (h : dp_N s) {w : Cond} (hw : w ∈ lw_nw) {A : Array Value} : w.before A s = true := by
  have hn := (List.mem_filter.mp hw).2
  have h1 := h w hw
  revert hn h1
  cases w <;> intro hn h1 <;> first | exact va_Nw.use rfl h1 | exact Bool.noConfusion (show false = true from hn)
/-- the world at memory G -/
def dp_B (D : va_G) (L : List Nat) (kd aC : Nat → Nat) (G : Mm) (U : State) : Prop := va_P D vwCl (va_pl L (dp_ce aC kd G)) U.heap ∧ va_K D vwCl (dp_tys aC) U ∧ va_D (fun q => q ∈ L) (va_pl L (dp_ce aC kd G)) ∧ dp_N U
def dp_Q (D : va_G) (L : List Nat) (kd aC : Nat → Nat) (k : Nat) (Q : dp_Ps) : Array Value → State → Outcome → State → Prop := match mT k with
  | none => va_Qv (fun G' : Mm => Q (jI 0) G' ∧ dp_WT L kd G') (fun G' t => dp_B D L kd aC G' t) (fun q => q ∈ L)
  | some _ => va_Qi (fun (x : Int32) (G' : Mm) => Q x G' ∧ dp_WT L kd G') (fun G' t => dp_B D L kd aC G' t) (fun q => q ∈ L)
def rm (k : Nat) : Room := { frames := mH k, cells := 0, slots := 0, locals := 40 * mH k }
def mW (k : Nat) : List Cond := .code (mY k) (mB k) (mL k) (mT k) :: lw_tb2
def dp_C (D : va_G) (aC : Nat → Nat) (k : Nat) (p : Program) (s : State) (m : MethodId) (margs : Array Value) (meth : Method) (c : Code) : Prop :=
  p.tables.exec = Jvm.exec ∧ c.code = mB k ∧ meth.sig.returnType = mT k ∧ c.maxLocals = mL k ∧ s.vm.findClass (mY k).cls = some m.cls ∧ (∀ w ∈ lw_tb2, w.before margs s = true) ∧ meth.locks = false ∧ va_K D vwCl (dp_tys aC) s ∧ dp_N s
/-- what the small machine's 'from here on, Q' says of the machine -/
def dp_X (l : Launch) (D : va_G) (L : List Nat) (kd aC : Nat → Nat) : dp_Rc := fun k pc ls st G Q =>
  dp_WT L kd G → ls.length = mL k → (∀ v, v ∈ st → dp_ok L kd v) → (∀ v, some v ∈ ls → dp_ok L kd v) →
  ∀ (p : Program) (e : Env) (s : State) (m : MethodId) (margs : Array Value) (below : List Frame) (meth : Method) (c : Code) (H : Heap) (locs : List Loc) (lsM : Array Slot),
    dp_C D aC k p s m margs meth c → lv_has lsM (mL k) (dp_as 0 ls) → va_P D vwCl (va_pl L (dp_ce aC kd G)) H → va_D (fun q => q ∈ L) (va_pl L (dp_ce aC kd G)) → va_S (fun q => q ∈ L) s.heap H locs →
    W p l e (rm k) s m margs below meth c H locs 0 0 (MQ below (dp_Q D L kd aC k Q) margs s 0 0 (fun q => q ∈ L)) (F0 m pc lsM (st.map dp_tv))
def dp_OK (k pc : Nat) (o : dp_Op) : Prop := ∀ (l : Launch) (D : va_G) (L : List Nat) (kd aC : Nat → Nat) (Y : dp_Rc), (∀ k pc ls st G Q, Y k pc ls st G Q → dp_X l D L kd aC k pc ls st G Q) →
  ∀ ls st G Q, o k pc ls st G Q Y → dp_X l D L kd aC k pc ls st G Q
def dp_all : Nat → List (List (Nat × dp_Op)) → Prop
  | _, [] => True
  | b, t :: ts => (∀ e ∈ t, dp_OK b e.1 e.2) ∧ dp_all (b + 1) ts
-- plain facts
theorem dp_cd {b : Bool} {P : Prop} (h : cond b P False) : b = true ∧ P := by
  cases b
  · exact False.elim h
  · exact ⟨rfl, h⟩
theorem dp_okc {L : List Nat} {kd : Nat → Nat} {v : Vl} {st : List Vl} (h : dp_ok L kd v) (hs : ∀ w, w ∈ st → dp_ok L kd w) : ∀ w, w ∈ v :: st → dp_ok L kd w := by
  intro w hw
  rcases List.mem_cons.mp hw with rfl | hw
  · exact h
  · exact hs w hw
theorem dp_okt {L : List Nat} {kd : Nat → Nat} {v : Vl} {st : List Vl} (hs : ∀ w, w ∈ v :: st → dp_ok L kd w) : ∀ w, w ∈ st → dp_ok L kd w := fun w hw => hs w (List.mem_cons_of_mem _ hw)
theorem dp_nth_as : ∀ (ls : dp_Lo) (b i : Nat) (v : Vl), dp_nth ls i = some v → (b + i, dp_tv v) ∈ dp_as b ls
  | [], _, _, _, h => by cases h
  | none :: l, b, 0, v, h => by cases h
  | some w :: l, b, 0, v, h => by
    cases h
    exact List.mem_cons_self
  | none :: l, b, i + 1, v, h => by
    have h1 := dp_nth_as l (b + 1) i v h
    rw [show b + (i + 1) = b + 1 + i from by omega]
    exact h1
  | some w :: l, b, i + 1, v, h => by
    have h1 := dp_nth_as l (b + 1) i v h
    rw [show b + (i + 1) = b + 1 + i from by omega]
    exact List.mem_cons_of_mem _ h1
theorem dp_as_nth : ∀ (ls : dp_Lo) (b : Nat) (q : Nat × Value), q ∈ dp_as b ls → ∃ i v, dp_nth ls i = some v ∧ q = (b + i, dp_tv v)
  | [], _, _, h => by cases h
  | none :: l, b, q, h => by
    obtain ⟨i, v, h1, h2⟩ := dp_as_nth l (b + 1) q h
    exact ⟨i + 1, v, h1, by rw [h2, show b + (i + 1) = b + 1 + i from by omega]⟩
  | some w :: l, b, q, h => by
    rcases List.mem_cons.mp h with h | h
    · exact ⟨0, w, rfl, h⟩
    · obtain ⟨i, v, h1, h2⟩ := dp_as_nth l (b + 1) q h
      exact ⟨i + 1, v, h1, by rw [h2, show b + (i + 1) = b + 1 + i from by omega]⟩
theorem dp_nth_mem : ∀ (ls : dp_Lo) (i : Nat) (v : Vl), dp_nth ls i = some v → some v ∈ ls
  | [], _, _, h => by cases h
  | w :: l, 0, v, h => by
    have h : w = some v := h
    rw [h]; exact List.mem_cons_self
  | w :: l, i + 1, v, h => List.mem_cons_of_mem _ (dp_nth_mem l i v h)
theorem dp_upd_len : ∀ (ls : dp_Lo) (i : Nat) (v : Vl), (dp_upd ls i v).length = ls.length
  | [], _, _ => rfl
  | _ :: _, 0, _ => rfl
  | w :: l, i + 1, v => by
    show (dp_upd l i v).length + 1 = l.length + 1
    rw [dp_upd_len l i v]
theorem dp_upd_nth : ∀ (ls : dp_Lo) (i j : Nat) (v w : Vl), dp_nth (dp_upd ls i v) j = some w → (j = i ∧ w = v) ∨ (j ≠ i ∧ dp_nth ls j = some w)
  | [], _, _, _, _, h => by cases h
  | x :: l, 0, 0, v, w, h => by
    have h : some v = some w := h
    exact Or.inl ⟨rfl, (Option.some.inj h).symm⟩
  | x :: l, 0, j + 1, v, w, h => Or.inr ⟨by omega, h⟩
  | x :: l, i + 1, 0, v, w, h => Or.inr ⟨by omega, h⟩
  | x :: l, i + 1, j + 1, v, w, h => by
    rcases dp_upd_nth l i j v w h with ⟨h1, h2⟩ | ⟨h1, h2⟩
    · exact Or.inl ⟨by omega, h2⟩
    · exact Or.inr ⟨by omega, h2⟩
theorem dp_mem_nth : ∀ (ls : dp_Lo) (v : Vl), some v ∈ ls → ∃ i, dp_nth ls i = some v
  | [], _, h => by cases h
  | w :: l, v, h => by
    rcases List.mem_cons.mp h with h | h
    · exact ⟨0, h.symm⟩
    · obtain ⟨i, hi⟩ := dp_mem_nth l v h
      exact ⟨i + 1, hi⟩
theorem dp_upd_ok {L : List Nat} {kd : Nat → Nat} {ls : dp_Lo} {i : Nat} {v : Vl} (hv : dp_ok L kd v) (h : ∀ w, some w ∈ ls → dp_ok L kd w) : ∀ w, some w ∈ dp_upd ls i v → dp_ok L kd w := by
  intro w hw
  obtain ⟨j, hj⟩ := dp_mem_nth _ _ hw
  rcases dp_upd_nth _ _ _ _ _ hj with ⟨-, h2⟩ | ⟨-, h2⟩
  · rw [h2]; exact hv
  · exact h w (dp_nth_mem _ _ _ h2)
theorem dp_rd {lsM : Array Slot} {n : Nat} {ls : dp_Lo} {i : Nat} {v : Vl} (h : lv_has lsM n (dp_as 0 ls)) (hn : dp_nth ls i = some v) : lsM[i]? = some (.val (dp_tv v)) := by
  have h1 := h.2.2 _ (dp_nth_as ls 0 i v hn)
  rw [Nat.zero_add] at h1
  exact h1
theorem dp_st {lsM : Array Slot} {n : Nat} {ls : dp_Lo} {i : Nat} {v : Vl} (h : lv_has lsM n ((i, dp_tv v) :: (dp_as 0 ls).filter (fun q => !(q.1 == i) && !(q.1 + 1 == i && q.2.category == 2)))) : lv_has lsM n (dp_as 0 (dp_upd ls i v)) := by
  refine ⟨h.1, h.2.1, fun q hq => h.2.2 q ?_⟩
  obtain ⟨j, w, h1, h2⟩ := dp_as_nth _ _ _ hq
  rw [Nat.zero_add] at h2
  rcases dp_upd_nth _ _ _ _ _ h1 with ⟨h3, h4⟩ | ⟨h3, h4⟩
  · rw [h2, h3, h4]; exact List.mem_cons_self
  · refine List.mem_cons_of_mem _ (List.mem_filter.mpr ⟨?_, ?_⟩)
    · have h5 := dp_nth_as ls 0 j w h4
      rw [Nat.zero_add] at h5
      rw [h2]; exact h5
    · rw [h2]
      simp [h3, dp_tv1]
theorem dp_mget {n j : Nat} (f : Nat → Value) (h : j < n) : ((List.range n).map f)[j]? = some (f j) := by
  simp [List.getElem?_map, List.getElem?_range, h]
theorem dp_mset {n j : Nat} (f : Nat → Value) (v : Value) : ((List.range n).map f).set j v = (List.range n).map (fun i => if i = j then v else f i) := by
  apply List.ext_getElem
  · simp
  · intro i h1 h2
    simp only [List.getElem_set, List.getElem_map, List.getElem_range]
    by_cases hij : j = i
    · simp [hij]
    · rw [if_neg hij, if_neg (fun h => hij h.symm)]
theorem dp_ce_obj {aC kd : Nat → Nat} {G : Mm} {a t : Nat} (h : kd a = t) (ht : t < 9) : dp_ce aC kd G a = .inr (t, (List.range (dp_nf t)).map (fun j => dp_fv t j (G.1 a j) (G.2 a j))) := by
  subst h
  unfold dp_ce
  rw [if_pos ht]
theorem dp_ce_int {aC kd : Nat → Nat} {G : Mm} {a t : Nat} (h : kd a = t) (ht : ¬ t < 9) (hk : dp_ak t < 2) : dp_ce aC kd G a = .inl (aC (dp_ak t), dp_al t, .inl (G.1 a)) := by
  subst h
  unfold dp_ce
  rw [if_neg ht, if_pos hk]
theorem dp_ce_ref {aC kd : Nat → Nat} {G : Mm} {a t : Nat} (h : kd a = t) (ht : ¬ t < 9) (hk : ¬ dp_ak t < 2) : dp_ce aC kd G a = .inl (aC (dp_ak t), dp_al t, .inr (.inr (.inr (.inr (fun i => some (G.2 a i)))))) := by
  subst h
  unfold dp_ce
  rw [if_neg ht, if_neg hk]
theorem dp_ce_eq {aC kd : Nat → Nat} {G G' : Mm} {a : Nat} (h1 : G.1 a = G'.1 a) (h2 : G.2 a = G'.2 a) : dp_ce aC kd G a = dp_ce aC kd G' a := by
  unfold dp_ce
  rw [h1, h2]
theorem dp_ak_obj {t : Nat} (h : dp_ak t < 9) : ¬ t < 9 := by
  intro q
  rcases (show t = 0 ∨ t = 1 ∨ t = 2 ∨ t = 3 ∨ t = 4 ∨ t = 5 ∨ t = 6 ∨ t = 7 ∨ t = 8 by omega) with rfl | rfl | rfl | rfl | rfl | rfl | rfl | rfl | rfl <;> exact absurd h (by decide)
theorem dp_wI_ne {G : Mm} {a j : Nat} {x : Int32} {b : Nat} (h : ¬ b = a) : (wI G a j x).1 b = G.1 b := by
  funext i
  show (if b = a ∧ i = j then x else G.1 b i) = G.1 b i
  rw [if_neg (fun q => h q.1)]
theorem dp_wR_ne {G : Mm} {a j y : Nat} {b : Nat} (h : ¬ b = a) : (wR G a j y).2 b = G.2 b := by
  funext i
  show (if b = a ∧ i = j then y else G.2 b i) = G.2 b i
  rw [if_neg (fun q => h q.1)]
theorem dp_wC_ne {G : Mm} {a0 sp a d n : Nat} {b : Nat} (h : ¬ b = a) : (wC G a0 sp a d n).1 b = G.1 b := by
  funext i
  show (if b = a ∧ d ≤ i ∧ i < d + n then G.1 a0 (sp + (i - d)) else G.1 b i) = G.1 b i
  rw [if_neg (fun q => h q.1)]
/-- what is put into a world is what the memory then says -/
theorem dp_pls {L : List Nat} {aC kd : Nat → Nat} {G G' : Mm} {a q0 : Nat} {e : va_E} (hD : va_D (fun q => q ∈ L) (va_pl L (dp_ce aC kd G))) (ha : a ∈ L) (hq : (va_pl L (dp_ce aC kd G))[q0]? = some (a, dp_ce aC kd G a))
    (he : e = dp_ce aC kd G' a) (hn : ∀ b, ¬ b = a → G'.1 b = G.1 b ∧ G'.2 b = G.2 b) : (va_pl L (dp_ce aC kd G)).set q0 (a, e) = va_pl L (dp_ce aC kd G') := by
  have h := va_pl_set (X := []) (e := e) hD ha hq
  simp only [List.nil_append] at h
  rw [h]
  refine va_pl_congr (fun b => ?_)
  by_cases hb : b = a
  · rw [hb, va_up_self, he]
  · rw [va_up_ne _ _ hb]
    exact dp_ce_eq (hn b hb).1.symm (hn b hb).2.symm
theorem dp_e_put {aC kd : Nat → Nat} {G : Mm} {a t j : Nat} {x : Int32} (h : kd a = t) (ht : t < 9) (hf : dp_fr t j = none) : (.inr (t, ((List.range (dp_nf t)).map (fun i => dp_fv t i (G.1 a i) (G.2 a i))).set j (.int x)) : va_E) = dp_ce aC kd (wI G a j x) a := by
  rw [dp_ce_obj h ht, dp_mset]
  congr 2
  apply List.map_congr_left
  intro i _
  by_cases hij : i = j
  · rw [if_pos hij, hij]
    unfold dp_fv
    rw [hf]
    show Value.int x = Value.int (if a = a ∧ j = j then x else G.1 a j)
    rw [if_pos ⟨rfl, rfl⟩]
  · rw [if_neg hij]
    show dp_fv t i (G.1 a i) (G.2 a i) = dp_fv t i (if a = a ∧ i = j then x else G.1 a i) (G.2 a i)
    rw [if_neg (fun q => hij q.2)]
theorem dp_e_iast {aC kd : Nat → Nat} {G : Mm} {a t j : Nat} {x : Int32} (h : kd a = t) (ht : ¬ t < 9) (hk : dp_ak t < 2) : (.inl (aC (dp_ak t), dp_al t, .inl (upd (G.1 a) j x)) : va_E) = dp_ce aC kd (wI G a j x) a := by
  rw [dp_ce_int h ht hk]
  congr 4
  funext i
  show upd (G.1 a) j x i = if a = a ∧ i = j then x else G.1 a i
  unfold upd
  by_cases hij : i = j
  · rw [if_pos hij, if_pos ⟨rfl, hij⟩]
  · rw [if_neg hij, if_neg (fun q => hij q.2)]
theorem dp_e_acp {aC kd : Nat → Nat} {G : Mm} {a a0 t sp d n : Nat} (h : kd a = t) (ht : ¬ t < 9) (hk : dp_ak t < 2) : (.inl (aC (dp_ak t), dp_al t, .inl (va_cpy (G.1 a0) (G.1 a) sp d n)) : va_E) = dp_ce aC kd (wC G a0 sp a d n) a := by
  rw [dp_ce_int h ht hk]
  congr 4
  funext i
  show (if d ≤ i ∧ i < d + n then G.1 a0 (sp + (i - d)) else G.1 a i) = if a = a ∧ d ≤ i ∧ i < d + n then G.1 a0 (sp + (i - d)) else G.1 a i
  by_cases hij : d ≤ i ∧ i < d + n
  · rw [if_pos hij, if_pos ⟨rfl, hij⟩]
  · rw [if_neg hij, if_neg (fun q => hij q.2)]
theorem dp_e_aast {aC kd : Nat → Nat} {G : Mm} {a t j y : Nat} (h : kd a = t) (ht : ¬ t < 9) (hk : ¬ dp_ak t < 2) : (.inl (aC (dp_ak t), dp_al t, .inr (.inr (.inr (.inr (va_up (fun i => some (G.2 a i)) j (some y)))))) : va_E) = dp_ce aC kd (wR G a j y) a := by
  rw [dp_ce_ref h ht hk]
  congr 7
  funext i
  show (if i = j then some y else some (G.2 a i)) = some (if a = a ∧ i = j then y else G.2 a i)
  by_cases hij : i = j
  · rw [if_pos hij, if_pos ⟨rfl, hij⟩]
  · rw [if_neg hij, if_neg (fun q => hij q.2)]
theorem dp_WT_wR {L : List Nat} {kd : Nat → Nat} {G : Mm} {a i v : Nat} (h : dp_WT L kd G) (hv : v ∈ L) (ht : 13 ≤ kd a ∧ kd a ≤ 15) (hk : kd v = dp_et (kd a)) : dp_WT L kd (wR G a i v) := by
  intro b hb j u hu
  show (if b = a ∧ j = i then v else G.2 b j) ∈ L ∧ kd (if b = a ∧ j = i then v else G.2 b j) = u
  by_cases hc : b = a ∧ j = i
  · rw [if_pos hc]
    refine ⟨hv, ?_⟩
    rw [hc.1] at hu
    unfold dp_rt at hu
    rw [if_neg (by omega)] at hu
    split at hu
    · rw [hk]; exact Option.some.inj hu
    · cases hu
  · rw [if_neg hc]
    exact h b hb j u hu
theorem dp_as_ini : ∀ (n b : Nat) (args : List Vl), args.length ≤ n → dp_as b (dp_ini n args) = lv_args b (args.map dp_tv)
  | 0, b, [], _ => rfl
  | 0, b, v :: l, h => by simp at h
  | n + 1, b, [], _ => by
    have h := dp_as_ini n (b + 1) [] (Nat.zero_le _)
    exact h
  | n + 1, b, v :: l, h => by
    have h1 := dp_as_ini n (b + 1) l (by simpa using h)
    show (b, dp_tv v) :: dp_as (b + 1) (dp_ini n l) = (b, dp_tv v) :: lv_args (if (dp_tv v).category = 2 then b + 2 else b + 1) (l.map dp_tv)
    rw [h1, dp_tv1]
    rfl
theorem dp_ini_len : ∀ (n : Nat) (args : List Vl), (dp_ini n args).length = n
  | 0, _ => rfl
  | n + 1, [] => by
    show (dp_ini n []).length + 1 = n + 1
    rw [dp_ini_len n []]
  | n + 1, v :: l => by
    show (dp_ini n l).length + 1 = n + 1
    rw [dp_ini_len n l]
theorem dp_ini_mem : ∀ (n : Nat) (args : List Vl) (v : Vl), some v ∈ dp_ini n args → v ∈ args
  | 0, _, _, h => by cases h
  | n + 1, [], v, h => by
    rcases List.mem_cons.mp h with h | h
    · cases h
    · exact dp_ini_mem n [] v h
  | n + 1, w :: l, v, h => by
    rcases List.mem_cons.mp h with h | h
    · cases h; exact List.mem_cons_self
    · exact List.mem_cons_of_mem _ (dp_ini_mem n l v h)
theorem dp_sl : ∀ (vs : List Vl), (lg_sl (vs.map dp_tv)).length = vs.length
  | [] => rfl
  | v :: l => by
    have h := dp_sl l
    have e : lg_sl ((v :: l).map dp_tv) = (if (dp_tv v).category = 2 then [Slot.val (dp_tv v), .second] else [.val (dp_tv v)]) ++ lg_sl (l.map dp_tv) := by simp [lg_sl]
    rw [e, dp_tv1, List.length_append, h]
    show 1 + l.length = l.length + 1
    omega
theorem dp_cat : ∀ (vs : List Vl), ((vs.map dp_tv).map fun v => v.category).sum = vs.length
  | [] => rfl
  | v :: l => by
    show (dp_tv v).category + ((l.map dp_tv).map fun v => v.category).sum = l.length + 1
    rw [dp_cat l, dp_tv1]
    omega
theorem dp_Wm {p : Program} {l : Launch} {e : Env} {R : Room} {s : State} {m : MethodId} {args : Array Value} {below : List Frame} {meth : Method} {c : Code} {H : Heap} {locs : List Loc} {cells slots : Nat} {Q Q' : State → Prop} {g : JFrame}
    (h : W p l e R s m args below meth c H locs cells slots Q g) (hq : ∀ t, Q t → Q' t) : W p l e R s m args below meth c H locs cells slots Q' g := by
  intro T hT X
  obtain ⟨t, a, b⟩ := h T hT X
  exact ⟨t, a, hq t b⟩
theorem dp_Q_mono {D : va_G} {L : List Nat} {kd aC : Nat → Nat} {k : Nat} {Q Q' : dp_Ps} (hq : ∀ x G', Q x G' → Q' x G') {a : Array Value} {s : State} {oc : Outcome} {t : State} (h : dp_Q D L kd aC k Q a s oc t) : dp_Q D L kd aC k Q' a s oc t := by
  revert h
  unfold dp_Q
  cases mT k
  · intro h
    obtain ⟨⟨u, h1, h2, h3⟩, h4⟩ := h
    exact ⟨⟨u, h1, ⟨hq _ _ h2.1, h2.2⟩, h3⟩, h4⟩
  · intro h
    obtain ⟨⟨r, u, h1, h2, h3⟩, h4⟩ := h
    exact ⟨⟨r, u, h1, ⟨hq _ _ h2.1, h2.2⟩, h3⟩, h4⟩
theorem dp_X_mono {l : Launch} {D : va_G} {L : List Nat} {kd aC : Nat → Nat} : dp_Mono (dp_X l D L kd aC) := by
  intro k pc ls st G Q Q' hq h hw hl hst hls p e s m margs below meth c H locs lsM C hlv hP hD hS
  refine dp_Wm (h hw hl hst hls p e s m margs below meth c H locs lsM C hlv hP hD hS) (fun t ht => ?_)
  obtain ⟨oc, h1, h2, h3, h4⟩ := ht
  exact ⟨oc, h1, h2, dp_Q_mono hq h3, h4⟩
theorem dp_good : GoodIn lw_tb2 lw_tb2 := fun w hw => ⟨hw, good_of_word (List.mem_filter.mp hw).2⟩
/-- a method's contract out of the small machine's -/
theorem dp_met {l : Launch} {D : va_G} {L : List Nat} {kd aC : Nat → Nat} {k : Nat} {args : List Vl} {G : Mm} {Q : dp_Ps} (hp : plainName (mY k).cls = true) (hn : args.length ≤ mL k) (h : dp_X l D L kd aC k 0 (dp_ini (mL k) args) [] G Q) (hw : dp_WT L kd G) (ha : ∀ v, v ∈ args → dp_ok L kd v) :
    Met l (mY k) (mW k) (rm k) (va_Pc (args.map dp_tv) (dp_B D L kd aC G)) (dp_Q D L kd aC k Q) 0 0 (fun q => q ∈ L) := by
  refine Met.ofW (cc := mB k) (maxL := mL k) (ret := mT k) hp rfl ?_
  intro p e s m args' below meth c s₁ B hml hv
  obtain ⟨rfl, hP, hK, hD, hN⟩ := hv
  have hts := atoms_spec (ws := mW k) B.pre
  have hl := lv_entry (args.map dp_tv) (n := mL k) (by rw [dp_sl]; exact hn)
  rw [lg_entry_eq]
  rw [← dp_as_ini (mL k) 0 args hn] at hl
  exact h hw (dp_ini_len _ _) (fun v hv => by cases hv) (fun v hv => ha v (dp_ini_mem _ _ _ hv)) p e s m _ below meth c s.heap [] _
    ⟨B.exec, B.bytes, B.returns, hml, findClass_of_methodNamed B.named, fun w hw => hts w (List.mem_cons_of_mem _ hw), B.notSynchronized, hK, hN⟩ hl hP hD va_S.rf

theorem ok_iconst {k pc : Nat} {n : Int} {x : Int32} (hd : decode (mB k) pc = .ok (.iconst n, 1)) (hv : Int32.ofInt n = x) : dp_OK k pc (o_push x 1) := by
  intro l D L kd aC Y hY ls st G Q h hw hl hst hls p e s m margs below meth c H locs lsM C hlv hP hD hS
  refine lv_iconst C.1 C.2.1 hd hv ?_
  exact hY _ _ _ _ _ _ h hw hl (dp_okc trivial hst) hls p e s m margs below meth c H locs lsM C hlv hP hD hS
theorem ok_bipush {k pc : Nat} {n : Int} {x : Int32} (hd : decode (mB k) pc = .ok (.bipush n, 2)) (hv : (Int8.ofInt n).toInt32 = x) : dp_OK k pc (o_push x 2) := by
  intro l D L kd aC Y hY ls st G Q h hw hl hst hls p e s m margs below meth c H locs lsM C hlv hP hD hS
  refine lv_bipush C.1 C.2.1 hd hv ?_
  exact hY _ _ _ _ _ _ h hw hl (dp_okc trivial hst) hls p e s m margs below meth c H locs lsM C hlv hP hD hS
theorem ok_sipush {k pc : Nat} {n : Int} {x : Int32} (hd : decode (mB k) pc = .ok (.sipush n, 3)) (hv : (Int16.ofInt n).toInt32 = x) : dp_OK k pc (o_push x 3) := by
  intro l D L kd aC Y hY ls st G Q h hw hl hst hls p e s m margs below meth c H locs lsM C hlv hP hD hS
  refine lv_sipush C.1 C.2.1 hd hv ?_
  exact hY _ _ _ _ _ _ h hw hl (dp_okc trivial hst) hls p e s m margs below meth c H locs lsM C hlv hP hD hS
theorem ok_ldc {k pc idx : Nat} {y x : Int32} (hy : y = x) (hc : Cond.constant (mY k).cls idx x ∈ lw_tb2) (hd : decode (mB k) pc = .ok (.ldc idx, 2)) : dp_OK k pc (o_push y 2) := by
  intro l D L kd aC Y hY ls st G Q h hw hl hst hls p e s m margs below meth c H locs lsM C hlv hP hD hS
  subst hy
  refine lv_ldc C.1 C.2.1 C.2.2.2.2.1 (C.2.2.2.2.2.1 _ hc) hd ?_
  exact hY _ _ _ _ _ _ h hw hl (dp_okc trivial hst) hls p e s m margs below meth c H locs lsM C hlv hP hD hS
theorem ok_iload_n {k pc i : Nat} {j : Fin 4} (hd : decode (mB k) pc = .ok (.iload_n j, 1)) (hi : (j : Nat) = i) : dp_OK k pc (o_iload i 1) := by
  intro l D L kd aC Y hY ls st G Q h hw hl hst hls p e s m margs below meth c H locs lsM C hlv hP hD hS
  unfold o_iload at h
  rcases hn : dp_nth ls i with _ | v
  · rw [hn] at h; exact False.elim h
  · rcases v with x | r
    · rw [hn] at h
      refine lv_iload_n C.1 C.2.1 hd hi (dp_rd hlv hn) ?_
      exact hY _ _ _ _ _ _ h hw hl (dp_okc (hls _ (dp_nth_mem _ _ _ hn)) hst) hls p e s m margs below meth c H locs lsM C hlv hP hD hS
    · rw [hn] at h; exact False.elim h
theorem ok_iload {k pc i : Nat} (hd : decode (mB k) pc = .ok (.iload i, 2)) : dp_OK k pc (o_iload i 2) := by
  intro l D L kd aC Y hY ls st G Q h hw hl hst hls p e s m margs below meth c H locs lsM C hlv hP hD hS
  unfold o_iload at h
  rcases hn : dp_nth ls i with _ | v
  · rw [hn] at h; exact False.elim h
  · rcases v with x | r
    · rw [hn] at h
      refine lv_iload C.1 C.2.1 hd (dp_rd hlv hn) ?_
      exact hY _ _ _ _ _ _ h hw hl (dp_okc (hls _ (dp_nth_mem _ _ _ hn)) hst) hls p e s m margs below meth c H locs lsM C hlv hP hD hS
    · rw [hn] at h; exact False.elim h
theorem ok_aload_n {k pc i : Nat} {j : Fin 4} (hd : decode (mB k) pc = .ok (.aload_n j, 1)) (hi : (j : Nat) = i) : dp_OK k pc (o_aload i 1) := by
  intro l D L kd aC Y hY ls st G Q h hw hl hst hls p e s m margs below meth c H locs lsM C hlv hP hD hS
  unfold o_aload at h
  rcases hn : dp_nth ls i with _ | v
  · rw [hn] at h; exact False.elim h
  · rcases v with x | r
    · rw [hn] at h; exact False.elim h
    · rw [hn] at h
      refine lv_aload_n C.1 C.2.1 hd hi (dp_rd hlv hn) ?_
      exact hY _ _ _ _ _ _ h hw hl (dp_okc (hls _ (dp_nth_mem _ _ _ hn)) hst) hls p e s m margs below meth c H locs lsM C hlv hP hD hS
theorem ok_aload {k pc i : Nat} (hd : decode (mB k) pc = .ok (.aload i, 2)) : dp_OK k pc (o_aload i 2) := by
  intro l D L kd aC Y hY ls st G Q h hw hl hst hls p e s m margs below meth c H locs lsM C hlv hP hD hS
  unfold o_aload at h
  rcases hn : dp_nth ls i with _ | v
  · rw [hn] at h; exact False.elim h
  · rcases v with x | r
    · rw [hn] at h; exact False.elim h
    · rw [hn] at h
      refine lv_aload C.1 C.2.1 hd (dp_rd hlv hn) ?_
      exact hY _ _ _ _ _ _ h hw hl (dp_okc (hls _ (dp_nth_mem _ _ _ hn)) hst) hls p e s m margs below meth c H locs lsM C hlv hP hD hS
theorem ok_istore_n {k pc i : Nat} {j : Fin 4} (hd : decode (mB k) pc = .ok (.istore_n j, 1)) (hi : (j : Nat) = i) (hn : i < mL k) : dp_OK k pc (o_istore i 1) := by
  intro l D L kd aC Y hY ls st G Q h hw hl hst hls p e s m margs below meth c H locs lsM C hlv hP hD hS
  rcases st with _ | ⟨v0, st⟩
  · exact False.elim h
  · rcases v0 with x0 | r0
    rotate_left
    · exact False.elim h
    · skip
      refine lv_istore_n (lv := dp_as 0 ls) C.1 C.2.1 hd hi hlv hn rfl (fun ls2 hl2 => ?_)
      exact hY _ _ _ _ _ _ h hw ((dp_upd_len _ _ _).trans hl) (dp_okt hst) (dp_upd_ok (hst _ List.mem_cons_self) hls) p e s m margs below meth c H locs ls2 C (dp_st (v := (.inl x0)) hl2) hP hD hS
theorem ok_istore {k pc i : Nat} (hd : decode (mB k) pc = .ok (.istore i, 2)) (hn : i < mL k) : dp_OK k pc (o_istore i 2) := by
  intro l D L kd aC Y hY ls st G Q h hw hl hst hls p e s m margs below meth c H locs lsM C hlv hP hD hS
  rcases st with _ | ⟨v0, st⟩
  · exact False.elim h
  · rcases v0 with x0 | r0
    rotate_left
    · exact False.elim h
    · skip
      refine lv_istore (lv := dp_as 0 ls) C.1 C.2.1 hd hlv hn rfl (fun ls2 hl2 => ?_)
      exact hY _ _ _ _ _ _ h hw ((dp_upd_len _ _ _).trans hl) (dp_okt hst) (dp_upd_ok (hst _ List.mem_cons_self) hls) p e s m margs below meth c H locs ls2 C (dp_st (v := (.inl x0)) hl2) hP hD hS
theorem ok_astore_n {k pc i : Nat} {j : Fin 4} (hd : decode (mB k) pc = .ok (.astore_n j, 1)) (hi : (j : Nat) = i) (hn : i < mL k) : dp_OK k pc (o_astore i 1) := by
  intro l D L kd aC Y hY ls st G Q h hw hl hst hls p e s m margs below meth c H locs lsM C hlv hP hD hS
  rcases st with _ | ⟨v0, st⟩
  · exact False.elim h
  · rcases v0 with x0 | r0
    · exact False.elim h
    · skip
      refine lv_astore_n (lv := dp_as 0 ls) C.1 C.2.1 hd hi hlv hn rfl (fun ls2 hl2 => ?_)
      exact hY _ _ _ _ _ _ h hw ((dp_upd_len _ _ _).trans hl) (dp_okt hst) (dp_upd_ok (hst _ List.mem_cons_self) hls) p e s m margs below meth c H locs ls2 C (dp_st (v := (.inr r0)) hl2) hP hD hS
theorem ok_astore {k pc i : Nat} (hd : decode (mB k) pc = .ok (.astore i, 2)) (hn : i < mL k) : dp_OK k pc (o_astore i 2) := by
  intro l D L kd aC Y hY ls st G Q h hw hl hst hls p e s m margs below meth c H locs lsM C hlv hP hD hS
  rcases st with _ | ⟨v0, st⟩
  · exact False.elim h
  · rcases v0 with x0 | r0
    · exact False.elim h
    · skip
      refine lv_astore (lv := dp_as 0 ls) C.1 C.2.1 hd hlv hn rfl (fun ls2 hl2 => ?_)
      exact hY _ _ _ _ _ _ h hw ((dp_upd_len _ _ _).trans hl) (dp_okt hst) (dp_upd_ok (hst _ List.mem_cons_self) hls) p e s m margs below meth c H locs ls2 C (dp_st (v := (.inr r0)) hl2) hP hD hS
theorem ok_iinc {k pc i : Nat} {n : Int} {d : Int32} (hd : decode (mB k) pc = .ok (.iinc i n, 3)) (hv : Int32.ofInt n = d) (hn : i < mL k) : dp_OK k pc (o_inc i d) := by
  intro l D L kd aC Y hY ls st G Q h hw hl hst hls p e s m margs below meth c H locs lsM C hlv hP hD hS
  unfold o_inc at h
  rcases hn2 : dp_nth ls i with _ | v
  · rw [hn2] at h; exact False.elim h
  · rcases v with x | r
    · rw [hn2] at h
      obtain ⟨q, hq⟩ := List.getElem?_of_mem (dp_nth_as ls 0 i _ hn2)
      rw [Nat.zero_add] at hq
      refine lv_iinc (lv := dp_as 0 ls) (k := q) (x := x) (v := x + d) C.1 C.2.1 hd hlv hq (by rw [hv]) hn rfl (fun ls2 hl2 => ?_)
      exact hY _ _ _ _ _ _ h hw ((dp_upd_len _ _ _).trans hl) hst (dp_upd_ok (v := vI (x + d)) trivial hls) p e s m margs below meth c H locs ls2 C (dp_st (v := vI (x + d)) hl2) hP hD hS
    · rw [hn2] at h; exact False.elim h
theorem ok_iadd {k pc : Nat} (hd : decode (mB k) pc = .ok (.iadd, 1)) : dp_OK k pc (o_bin (fun x y => x + y)) := by
  intro l D L kd aC Y hY ls st G Q h hw hl hst hls p e s m margs below meth c H locs lsM C hlv hP hD hS
  rcases st with _ | ⟨v0, st⟩
  · exact False.elim h
  · rcases v0 with x0 | r0
    rotate_left
    · exact False.elim h
    · skip
      rcases st with _ | ⟨v1, st⟩
      · exact False.elim h
      · rcases v1 with x1 | r1
        rotate_left
        · exact False.elim h
        · skip
          refine lv_iadd C.1 C.2.1 hd ?_
          exact hY _ _ _ _ _ _ h hw hl (dp_okc trivial (dp_okt (dp_okt hst))) hls p e s m margs below meth c H locs lsM C hlv hP hD hS
theorem ok_isub {k pc : Nat} (hd : decode (mB k) pc = .ok (.isub, 1)) : dp_OK k pc (o_bin (fun x y => x - y)) := by
  intro l D L kd aC Y hY ls st G Q h hw hl hst hls p e s m margs below meth c H locs lsM C hlv hP hD hS
  rcases st with _ | ⟨v0, st⟩
  · exact False.elim h
  · rcases v0 with x0 | r0
    rotate_left
    · exact False.elim h
    · skip
      rcases st with _ | ⟨v1, st⟩
      · exact False.elim h
      · rcases v1 with x1 | r1
        rotate_left
        · exact False.elim h
        · skip
          refine lv_isub C.1 C.2.1 hd ?_
          exact hY _ _ _ _ _ _ h hw hl (dp_okc trivial (dp_okt (dp_okt hst))) hls p e s m margs below meth c H locs lsM C hlv hP hD hS
theorem ok_imul {k pc : Nat} (hd : decode (mB k) pc = .ok (.imul, 1)) : dp_OK k pc (o_bin (fun x y => x * y)) := by
  intro l D L kd aC Y hY ls st G Q h hw hl hst hls p e s m margs below meth c H locs lsM C hlv hP hD hS
  rcases st with _ | ⟨v0, st⟩
  · exact False.elim h
  · rcases v0 with x0 | r0
    rotate_left
    · exact False.elim h
    · skip
      rcases st with _ | ⟨v1, st⟩
      · exact False.elim h
      · rcases v1 with x1 | r1
        rotate_left
        · exact False.elim h
        · skip
          refine lv_imul C.1 C.2.1 hd ?_
          exact hY _ _ _ _ _ _ h hw hl (dp_okc trivial (dp_okt (dp_okt hst))) hls p e s m margs below meth c H locs lsM C hlv hP hD hS
theorem ok_iand {k pc : Nat} (hd : decode (mB k) pc = .ok (.iand, 1)) : dp_OK k pc (o_bin (fun x y => x &&& y)) := by
  intro l D L kd aC Y hY ls st G Q h hw hl hst hls p e s m margs below meth c H locs lsM C hlv hP hD hS
  rcases st with _ | ⟨v0, st⟩
  · exact False.elim h
  · rcases v0 with x0 | r0
    rotate_left
    · exact False.elim h
    · skip
      rcases st with _ | ⟨v1, st⟩
      · exact False.elim h
      · rcases v1 with x1 | r1
        rotate_left
        · exact False.elim h
        · skip
          refine lv_iand C.1 C.2.1 hd ?_
          exact hY _ _ _ _ _ _ h hw hl (dp_okc trivial (dp_okt (dp_okt hst))) hls p e s m margs below meth c H locs lsM C hlv hP hD hS
theorem ok_idiv {k pc : Nat} (hd : decode (mB k) pc = .ok (.idiv, 1)) : dp_OK k pc o_div := by
  intro l D L kd aC Y hY ls st G Q h hw hl hst hls p e s m margs below meth c H locs lsM C hlv hP hD hS
  rcases st with _ | ⟨v0, st⟩
  · exact False.elim h
  · rcases v0 with x0 | r0
    rotate_left
    · exact False.elim h
    · skip
      rcases st with _ | ⟨v1, st⟩
      · exact False.elim h
      · rcases v1 with x1 | r1
        rotate_left
        · exact False.elim h
        · skip
          obtain ⟨h0, h⟩ := h
          refine lv_idiv C.1 C.2.1 hd h0 ?_
          exact hY _ _ _ _ _ _ h hw hl (dp_okc trivial (dp_okt (dp_okt hst))) hls p e s m margs below meth c H locs lsM C hlv hP hD hS
theorem ok_irem {k pc : Nat} (hd : decode (mB k) pc = .ok (.irem, 1)) : dp_OK k pc o_rem := by
  intro l D L kd aC Y hY ls st G Q h hw hl hst hls p e s m margs below meth c H locs lsM C hlv hP hD hS
  rcases st with _ | ⟨v0, st⟩
  · exact False.elim h
  · rcases v0 with x0 | r0
    rotate_left
    · exact False.elim h
    · skip
      rcases st with _ | ⟨v1, st⟩
      · exact False.elim h
      · rcases v1 with x1 | r1
        rotate_left
        · exact False.elim h
        · skip
          obtain ⟨h0, h⟩ := h
          refine lv_irem C.1 C.2.1 hd h0 ?_
          exact hY _ _ _ _ _ _ h hw hl (dp_okc trivial (dp_okt (dp_okt hst))) hls p e s m margs below meth c H locs lsM C hlv hP hD hS
theorem ok_if_eq {k pc tgt : Nat} {off : Int} (hd : decode (mB k) pc = .ok (.ifCond .eq off, 3)) (ht : (pc : Int) + off = (tgt : Int)) : dp_OK k pc (o_if (fun x => x = 0) tgt) := by
  intro l D L kd aC Y hY ls st G Q h hw hl hst hls p e s m margs below meth c H locs lsM C hlv hP hD hS
  rcases st with _ | ⟨v0, st⟩
  · exact False.elim h
  · rcases v0 with x0 | r0
    rotate_left
    · exact False.elim h
    · skip
      refine lv_if_eq C.1 C.2.1 hd ht (fun hc => ?_) (fun hc => ?_)
      · exact hY _ _ _ _ _ _ (h.1 hc) hw hl (dp_okt hst) hls p e s m margs below meth c H locs lsM C hlv hP hD hS
      · exact hY _ _ _ _ _ _ (h.2 hc) hw hl (dp_okt hst) hls p e s m margs below meth c H locs lsM C hlv hP hD hS
theorem ok_if_ne {k pc tgt : Nat} {off : Int} (hd : decode (mB k) pc = .ok (.ifCond .ne off, 3)) (ht : (pc : Int) + off = (tgt : Int)) : dp_OK k pc (o_if (fun x => ¬ x = 0) tgt) := by
  intro l D L kd aC Y hY ls st G Q h hw hl hst hls p e s m margs below meth c H locs lsM C hlv hP hD hS
  rcases st with _ | ⟨v0, st⟩
  · exact False.elim h
  · rcases v0 with x0 | r0
    rotate_left
    · exact False.elim h
    · skip
      refine lv_if_ne C.1 C.2.1 hd ht (fun hc => ?_) (fun hc => ?_)
      · exact hY _ _ _ _ _ _ (h.1 hc) hw hl (dp_okt hst) hls p e s m margs below meth c H locs lsM C hlv hP hD hS
      · exact hY _ _ _ _ _ _ (h.2 (fun q => q hc)) hw hl (dp_okt hst) hls p e s m margs below meth c H locs lsM C hlv hP hD hS
theorem ok_if_lt {k pc tgt : Nat} {off : Int} (hd : decode (mB k) pc = .ok (.ifCond .lt off, 3)) (ht : (pc : Int) + off = (tgt : Int)) : dp_OK k pc (o_if (fun x => x < 0) tgt) := by
  intro l D L kd aC Y hY ls st G Q h hw hl hst hls p e s m margs below meth c H locs lsM C hlv hP hD hS
  rcases st with _ | ⟨v0, st⟩
  · exact False.elim h
  · rcases v0 with x0 | r0
    rotate_left
    · exact False.elim h
    · skip
      refine lv_if_lt C.1 C.2.1 hd ht (fun hc => ?_) (fun hc => ?_)
      · exact hY _ _ _ _ _ _ (h.1 hc) hw hl (dp_okt hst) hls p e s m margs below meth c H locs lsM C hlv hP hD hS
      · exact hY _ _ _ _ _ _ (h.2 hc) hw hl (dp_okt hst) hls p e s m margs below meth c H locs lsM C hlv hP hD hS
theorem ok_if_ge {k pc tgt : Nat} {off : Int} (hd : decode (mB k) pc = .ok (.ifCond .ge off, 3)) (ht : (pc : Int) + off = (tgt : Int)) : dp_OK k pc (o_if (fun x => 0 ≤ x) tgt) := by
  intro l D L kd aC Y hY ls st G Q h hw hl hst hls p e s m margs below meth c H locs lsM C hlv hP hD hS
  rcases st with _ | ⟨v0, st⟩
  · exact False.elim h
  · rcases v0 with x0 | r0
    rotate_left
    · exact False.elim h
    · skip
      refine lv_if_ge C.1 C.2.1 hd ht (fun hc => ?_) (fun hc => ?_)
      · exact hY _ _ _ _ _ _ (h.1 hc) hw hl (dp_okt hst) hls p e s m margs below meth c H locs lsM C hlv hP hD hS
      · exact hY _ _ _ _ _ _ (h.2 hc) hw hl (dp_okt hst) hls p e s m margs below meth c H locs lsM C hlv hP hD hS
theorem ok_if_gt {k pc tgt : Nat} {off : Int} (hd : decode (mB k) pc = .ok (.ifCond .gt off, 3)) (ht : (pc : Int) + off = (tgt : Int)) : dp_OK k pc (o_if (fun x => 0 < x) tgt) := by
  intro l D L kd aC Y hY ls st G Q h hw hl hst hls p e s m margs below meth c H locs lsM C hlv hP hD hS
  rcases st with _ | ⟨v0, st⟩
  · exact False.elim h
  · rcases v0 with x0 | r0
    rotate_left
    · exact False.elim h
    · skip
      refine lv_if_gt C.1 C.2.1 hd ht (fun hc => ?_) (fun hc => ?_)
      · exact hY _ _ _ _ _ _ (h.1 hc) hw hl (dp_okt hst) hls p e s m margs below meth c H locs lsM C hlv hP hD hS
      · exact hY _ _ _ _ _ _ (h.2 hc) hw hl (dp_okt hst) hls p e s m margs below meth c H locs lsM C hlv hP hD hS
theorem ok_if_le {k pc tgt : Nat} {off : Int} (hd : decode (mB k) pc = .ok (.ifCond .le off, 3)) (ht : (pc : Int) + off = (tgt : Int)) : dp_OK k pc (o_if (fun x => x ≤ 0) tgt) := by
  intro l D L kd aC Y hY ls st G Q h hw hl hst hls p e s m margs below meth c H locs lsM C hlv hP hD hS
  rcases st with _ | ⟨v0, st⟩
  · exact False.elim h
  · rcases v0 with x0 | r0
    rotate_left
    · exact False.elim h
    · skip
      refine lv_if_le C.1 C.2.1 hd ht (fun hc => ?_) (fun hc => ?_)
      · exact hY _ _ _ _ _ _ (h.1 hc) hw hl (dp_okt hst) hls p e s m margs below meth c H locs lsM C hlv hP hD hS
      · exact hY _ _ _ _ _ _ (h.2 hc) hw hl (dp_okt hst) hls p e s m margs below meth c H locs lsM C hlv hP hD hS
theorem ok_cmp_eq {k pc tgt : Nat} {off : Int} (hd : decode (mB k) pc = .ok (.if_icmp .eq off, 3)) (ht : (pc : Int) + off = (tgt : Int)) : dp_OK k pc (o_cmp (fun x y => x = y) tgt) := by
  intro l D L kd aC Y hY ls st G Q h hw hl hst hls p e s m margs below meth c H locs lsM C hlv hP hD hS
  rcases st with _ | ⟨v0, st⟩
  · exact False.elim h
  · rcases v0 with x0 | r0
    rotate_left
    · exact False.elim h
    · skip
      rcases st with _ | ⟨v1, st⟩
      · exact False.elim h
      · rcases v1 with x1 | r1
        rotate_left
        · exact False.elim h
        · skip
          refine lv_icmp_eq C.1 C.2.1 hd ht (fun hc => ?_) (fun hc => ?_)
          · exact hY _ _ _ _ _ _ (h.1 hc) hw hl (dp_okt (dp_okt hst)) hls p e s m margs below meth c H locs lsM C hlv hP hD hS
          · exact hY _ _ _ _ _ _ (h.2 hc) hw hl (dp_okt (dp_okt hst)) hls p e s m margs below meth c H locs lsM C hlv hP hD hS
theorem ok_cmp_ne {k pc tgt : Nat} {off : Int} (hd : decode (mB k) pc = .ok (.if_icmp .ne off, 3)) (ht : (pc : Int) + off = (tgt : Int)) : dp_OK k pc (o_cmp (fun x y => ¬ x = y) tgt) := by
  intro l D L kd aC Y hY ls st G Q h hw hl hst hls p e s m margs below meth c H locs lsM C hlv hP hD hS
  rcases st with _ | ⟨v0, st⟩
  · exact False.elim h
  · rcases v0 with x0 | r0
    rotate_left
    · exact False.elim h
    · skip
      rcases st with _ | ⟨v1, st⟩
      · exact False.elim h
      · rcases v1 with x1 | r1
        rotate_left
        · exact False.elim h
        · skip
          refine lv_icmp_ne C.1 C.2.1 hd ht (fun hc => ?_) (fun hc => ?_)
          · exact hY _ _ _ _ _ _ (h.1 hc) hw hl (dp_okt (dp_okt hst)) hls p e s m margs below meth c H locs lsM C hlv hP hD hS
          · exact hY _ _ _ _ _ _ (h.2 (fun q => q hc)) hw hl (dp_okt (dp_okt hst)) hls p e s m margs below meth c H locs lsM C hlv hP hD hS
theorem ok_cmp_lt {k pc tgt : Nat} {off : Int} (hd : decode (mB k) pc = .ok (.if_icmp .lt off, 3)) (ht : (pc : Int) + off = (tgt : Int)) : dp_OK k pc (o_cmp (fun x y => x < y) tgt) := by
  intro l D L kd aC Y hY ls st G Q h hw hl hst hls p e s m margs below meth c H locs lsM C hlv hP hD hS
  rcases st with _ | ⟨v0, st⟩
  · exact False.elim h
  · rcases v0 with x0 | r0
    rotate_left
    · exact False.elim h
    · skip
      rcases st with _ | ⟨v1, st⟩
      · exact False.elim h
      · rcases v1 with x1 | r1
        rotate_left
        · exact False.elim h
        · skip
          refine lv_icmp_lt C.1 C.2.1 hd ht (fun hc => ?_) (fun hc => ?_)
          · exact hY _ _ _ _ _ _ (h.1 hc) hw hl (dp_okt (dp_okt hst)) hls p e s m margs below meth c H locs lsM C hlv hP hD hS
          · exact hY _ _ _ _ _ _ (h.2 hc) hw hl (dp_okt (dp_okt hst)) hls p e s m margs below meth c H locs lsM C hlv hP hD hS
theorem ok_cmp_ge {k pc tgt : Nat} {off : Int} (hd : decode (mB k) pc = .ok (.if_icmp .ge off, 3)) (ht : (pc : Int) + off = (tgt : Int)) : dp_OK k pc (o_cmp (fun x y => y ≤ x) tgt) := by
  intro l D L kd aC Y hY ls st G Q h hw hl hst hls p e s m margs below meth c H locs lsM C hlv hP hD hS
  rcases st with _ | ⟨v0, st⟩
  · exact False.elim h
  · rcases v0 with x0 | r0
    rotate_left
    · exact False.elim h
    · skip
      rcases st with _ | ⟨v1, st⟩
      · exact False.elim h
      · rcases v1 with x1 | r1
        rotate_left
        · exact False.elim h
        · skip
          refine lv_icmp_ge C.1 C.2.1 hd ht (fun hc => ?_) (fun hc => ?_)
          · exact hY _ _ _ _ _ _ (h.1 hc) hw hl (dp_okt (dp_okt hst)) hls p e s m margs below meth c H locs lsM C hlv hP hD hS
          · exact hY _ _ _ _ _ _ (h.2 hc) hw hl (dp_okt (dp_okt hst)) hls p e s m margs below meth c H locs lsM C hlv hP hD hS
theorem ok_cmp_gt {k pc tgt : Nat} {off : Int} (hd : decode (mB k) pc = .ok (.if_icmp .gt off, 3)) (ht : (pc : Int) + off = (tgt : Int)) : dp_OK k pc (o_cmp (fun x y => y < x) tgt) := by
  intro l D L kd aC Y hY ls st G Q h hw hl hst hls p e s m margs below meth c H locs lsM C hlv hP hD hS
  rcases st with _ | ⟨v0, st⟩
  · exact False.elim h
  · rcases v0 with x0 | r0
    rotate_left
    · exact False.elim h
    · skip
      rcases st with _ | ⟨v1, st⟩
      · exact False.elim h
      · rcases v1 with x1 | r1
        rotate_left
        · exact False.elim h
        · skip
          refine lv_icmp_gt C.1 C.2.1 hd ht (fun hc => ?_) (fun hc => ?_)
          · exact hY _ _ _ _ _ _ (h.1 hc) hw hl (dp_okt (dp_okt hst)) hls p e s m margs below meth c H locs lsM C hlv hP hD hS
          · exact hY _ _ _ _ _ _ (h.2 hc) hw hl (dp_okt (dp_okt hst)) hls p e s m margs below meth c H locs lsM C hlv hP hD hS
theorem ok_cmp_le {k pc tgt : Nat} {off : Int} (hd : decode (mB k) pc = .ok (.if_icmp .le off, 3)) (ht : (pc : Int) + off = (tgt : Int)) : dp_OK k pc (o_cmp (fun x y => x ≤ y) tgt) := by
  intro l D L kd aC Y hY ls st G Q h hw hl hst hls p e s m margs below meth c H locs lsM C hlv hP hD hS
  rcases st with _ | ⟨v0, st⟩
  · exact False.elim h
  · rcases v0 with x0 | r0
    rotate_left
    · exact False.elim h
    · skip
      rcases st with _ | ⟨v1, st⟩
      · exact False.elim h
      · rcases v1 with x1 | r1
        rotate_left
        · exact False.elim h
        · skip
          refine lv_icmp_le C.1 C.2.1 hd ht (fun hc => ?_) (fun hc => ?_)
          · exact hY _ _ _ _ _ _ (h.1 hc) hw hl (dp_okt (dp_okt hst)) hls p e s m margs below meth c H locs lsM C hlv hP hD hS
          · exact hY _ _ _ _ _ _ (h.2 hc) hw hl (dp_okt (dp_okt hst)) hls p e s m margs below meth c H locs lsM C hlv hP hD hS
theorem ok_goto {k pc tgt : Nat} {off : Int} (hd : decode (mB k) pc = .ok (.goto off, 3)) (ht : (pc : Int) + off = (tgt : Int)) : dp_OK k pc (o_goto tgt) := by
  intro l D L kd aC Y hY ls st G Q h hw hl hst hls p e s m margs below meth c H locs lsM C hlv hP hD hS
  refine lv_goto C.1 C.2.1 hd ht ?_
  exact hY _ _ _ _ _ _ h hw hl hst hls p e s m margs below meth c H locs lsM C hlv hP hD hS
theorem ok_dup {k pc : Nat} (hd : decode (mB k) pc = .ok (.dup, 1)) : dp_OK k pc o_dup := by
  intro l D L kd aC Y hY ls st G Q h hw hl hst hls p e s m margs below meth c H locs lsM C hlv hP hD hS
  rcases st with _ | ⟨v0, st⟩
  · exact False.elim h
  · skip
    refine lv_dup C.1 C.2.1 hd (dp_tv1 _) ?_
    exact hY _ _ _ _ _ _ h hw hl (dp_okc (hst _ List.mem_cons_self) hst) hls p e s m margs below meth c H locs lsM C hlv hP hD hS
theorem ok_dup2 {k pc : Nat} (hd : decode (mB k) pc = .ok (.dup2, 1)) : dp_OK k pc o_dup2 := by
  intro l D L kd aC Y hY ls st G Q h hw hl hst hls p e s m margs below meth c H locs lsM C hlv hP hD hS
  rcases st with _ | ⟨v0, st⟩
  · exact False.elim h
  · skip
    rcases st with _ | ⟨v1, st⟩
    · exact False.elim h
    · skip
      refine lv_dup2_11 C.1 C.2.1 hd (dp_tv1 _) (dp_tv1 _) ?_
      exact hY _ _ _ _ _ _ h hw hl (dp_okc (hst _ List.mem_cons_self) (dp_okc (hst _ (List.mem_cons_of_mem _ List.mem_cons_self)) hst)) hls p e s m margs below meth c H locs lsM C hlv hP hD hS
theorem ok_pop {k pc : Nat} (hd : decode (mB k) pc = .ok (.pop, 1)) : dp_OK k pc o_pop := by
  intro l D L kd aC Y hY ls st G Q h hw hl hst hls p e s m margs below meth c H locs lsM C hlv hP hD hS
  rcases st with _ | ⟨v0, st⟩
  · exact False.elim h
  · skip
    refine lv_pop C.1 C.2.1 hd (dp_tv1 _) ?_
    exact hY _ _ _ _ _ _ h hw hl (dp_okt hst) hls p e s m margs below meth c H locs lsM C hlv hP hD hS
theorem ok_getI {k pc t j idx N : Nat} {C : String} {T : u_T} (hcl : vwCl[t]? = some (C, T, N)) (hin : ∀ w ∈ u_ws C T N, w ∈ lw_tb2) (ht : t < 9) (hN : dp_nf t = N) (hj : j < N) (hf : dp_fr t j = none) (hlink : Cond.fieldLink (mY k).cls idx (T j).1 (T j).2.1 (T j).2.2.1 ∈ lw_tb2) (hd : decode (mB k) pc = .ok (.getfield idx, 3)) : dp_OK k pc (o_getI t j) := by
  intro l D L kd aC Y hY ls st G Q h hw hl hst hls p e s m margs below meth c H locs lsM C_ hlv hP hD hS
  rcases st with _ | ⟨v0, st⟩
  · exact False.elim h
  · rcases v0 with x0 | r0
    · exact False.elim h
    · skip
      obtain ⟨hbq, h⟩ := dp_cd h
      have hrt := Nat.eq_of_beq_eq_true hbq
      obtain ⟨hrL, hrk⟩ : r0.2 ∈ L ∧ kd r0.2 = r0.1 := hst (.inr r0) List.mem_cons_self
      rw [hrt] at hrk
      obtain ⟨q0, hq0⟩ := va_pl_get (X := []) (f := dp_ce aC kd G) hrL
      rw [List.nil_append] at hq0
      rw [dp_ce_obj hrk ht] at hq0
      refine va_get (D := D) (C := C) (T := T) (N := N) (Ts := lw_tb2) (v := (.int (G.1 r0.2 j))) C_.1 C_.2.1 C_.2.2.2.2.2.1 hin C_.2.2.2.2.1 C_.2.2.2.2.2.2.2.1 hP q0 hq0 hcl j hj (C_.2.2.2.2.2.1 _ hlink) (fun x h => h) ?_ hd ?_
      · rw [dp_mget _ (hN ▸ hj)]; unfold dp_fv; rw [hf]
      · exact hY _ _ _ _ _ _ h hw hl (dp_okc trivial (dp_okt hst)) hls p e s m margs below meth c H locs lsM C_ hlv hP hD hS
theorem ok_getR {k pc t j idx N : Nat} {C : String} {T : u_T} (hcl : vwCl[t]? = some (C, T, N)) (hin : ∀ w ∈ u_ws C T N, w ∈ lw_tb2) (ht : t < 9) (hN : dp_nf t = N) (hj : j < N) {u : Nat} (hf : dp_fr t j = some u) (hlink : Cond.fieldLink (mY k).cls idx (T j).1 (T j).2.1 (T j).2.2.1 ∈ lw_tb2) (hd : decode (mB k) pc = .ok (.getfield idx, 3)) : dp_OK k pc (o_getR t j u) := by
  intro l D L kd aC Y hY ls st G Q h hw hl hst hls p e s m margs below meth c H locs lsM C_ hlv hP hD hS
  rcases st with _ | ⟨v0, st⟩
  · exact False.elim h
  · rcases v0 with x0 | r0
    · exact False.elim h
    · skip
      obtain ⟨hbq, h⟩ := dp_cd h
      have hrt := Nat.eq_of_beq_eq_true hbq
      obtain ⟨hrL, hrk⟩ : r0.2 ∈ L ∧ kd r0.2 = r0.1 := hst (.inr r0) List.mem_cons_self
      rw [hrt] at hrk
      obtain ⟨q0, hq0⟩ := va_pl_get (X := []) (f := dp_ce aC kd G) hrL
      rw [List.nil_append] at hq0
      rw [dp_ce_obj hrk ht] at hq0
      refine va_get (D := D) (C := C) (T := T) (N := N) (Ts := lw_tb2) (v := (.ref (G.2 r0.2 j))) C_.1 C_.2.1 C_.2.2.2.2.2.1 hin C_.2.2.2.2.1 C_.2.2.2.2.2.2.2.1 hP q0 hq0 hcl j hj (C_.2.2.2.2.2.1 _ hlink) (fun x h => h) ?_ hd ?_
      · rw [dp_mget _ (hN ▸ hj)]; unfold dp_fv; rw [hf]
      · exact hY _ _ _ _ _ _ h hw hl (dp_okc (hw r0.2 hrL j u (by rw [hrk]; unfold dp_rt; rw [if_pos ht]; exact hf)) (dp_okt hst)) hls p e s m margs below meth c H locs lsM C_ hlv hP hD hS
theorem ok_putI {k pc t j idx N : Nat} {C : String} {T : u_T} (hcl : vwCl[t]? = some (C, T, N)) (hin : ∀ w ∈ u_ws C T N, w ∈ lw_tb2) (ht : t < 9) (hN : dp_nf t = N) (hj : j < N) (hf : dp_fr t j = none) (ty0 : Nat → FieldType) (hty : ∀ k, k < N → parseFieldDescriptor (T k).2.2.1 = some (ty0 k)) (hnm : ∀ a, a < N → ∀ b, b < N → a ≠ b → (T a).2.1 ≠ (T b).2.1) (hfin : (T j).2.2.2 = false) (hpd : parseFieldDescriptor (T j).2.2.1 = some .int) (hlink : Cond.fieldLink (mY k).cls idx (T j).1 (T j).2.1 (T j).2.2.1 ∈ lw_tb2) (hd : decode (mB k) pc = .ok (.putfield idx, 3)) : dp_OK k pc (o_putI t j) := by
  intro l D L kd aC Y hY ls st G Q h hw hl hst hls p e s m margs below meth c H locs lsM C_ hlv hP hD hS
  rcases st with _ | ⟨v0, st⟩
  · exact False.elim h
  · rcases v0 with x0 | r0
    rotate_left
    · exact False.elim h
    · skip
      rcases st with _ | ⟨v1, st⟩
      · exact False.elim h
      · rcases v1 with x1 | r1
        · exact False.elim h
        · skip
          obtain ⟨hbq, h⟩ := dp_cd h
          have hrt := Nat.eq_of_beq_eq_true hbq
          obtain ⟨hrL, hrk⟩ : r1.2 ∈ L ∧ kd r1.2 = r1.1 := hst (.inr r1) (List.mem_cons_of_mem _ List.mem_cons_self)
          rw [hrt] at hrk
          obtain ⟨q0, hq0⟩ := va_pl_get (X := []) (f := dp_ce aC kd G) hrL
          rw [List.nil_append] at hq0
          have hq1 := hq0
          rw [dp_ce_obj hrk ht] at hq0
          refine va_put (D := D) (C := C) (T := T) (N := N) (Ts := lw_tb2) (v := .int x0) (ty := .int) C_.1 C_.2.1 C_.2.2.2.2.2.1 hin ty0 hty hnm C_.2.2.2.2.1 C_.2.2.2.2.2.2.2.1 hP hD hS q0 hq0 hcl j hj (C_.2.2.2.2.2.1 _ hlink) (fun x h => h) hfin hpd rfl rfl (by rw [List.length_map, List.length_range, hN]; exact hj) hd (fun H1 locs1 hP1 hD1 hS1 => ?_)
          rw [dp_pls hD hrL hq1 (dp_e_put hrk ht hf) (fun b hb => ⟨dp_wI_ne hb, rfl⟩)] at hP1 hD1
          exact hY _ _ _ _ _ _ h hw hl (dp_okt (dp_okt hst)) hls p e s m margs below meth c H1 locs1 lsM C_ hlv hP1 hD1 hS1
theorem ok_putZ {k pc t j idx N : Nat} {C : String} {T : u_T} (hcl : vwCl[t]? = some (C, T, N)) (hin : ∀ w ∈ u_ws C T N, w ∈ lw_tb2) (ht : t < 9) (hN : dp_nf t = N) (hj : j < N) (hf : dp_fr t j = none) (ty0 : Nat → FieldType) (hty : ∀ k, k < N → parseFieldDescriptor (T k).2.2.1 = some (ty0 k)) (hnm : ∀ a, a < N → ∀ b, b < N → a ≠ b → (T a).2.1 ≠ (T b).2.1) (hfin : (T j).2.2.2 = false) (hpd : parseFieldDescriptor (T j).2.2.1 = some .boolean) (hlink : Cond.fieldLink (mY k).cls idx (T j).1 (T j).2.1 (T j).2.2.1 ∈ lw_tb2) (hd : decode (mB k) pc = .ok (.putfield idx, 3)) : dp_OK k pc (o_putZ t j) := by
  intro l D L kd aC Y hY ls st G Q h hw hl hst hls p e s m margs below meth c H locs lsM C_ hlv hP hD hS
  rcases st with _ | ⟨v0, st⟩
  · exact False.elim h
  · rcases v0 with x0 | r0
    rotate_left
    · exact False.elim h
    · skip
      rcases st with _ | ⟨v1, st⟩
      · exact False.elim h
      · rcases v1 with x1 | r1
        · exact False.elim h
        · skip
          obtain ⟨hbq, h⟩ := dp_cd h
          have hrt := Nat.eq_of_beq_eq_true hbq
          obtain ⟨hrL, hrk⟩ : r1.2 ∈ L ∧ kd r1.2 = r1.1 := hst (.inr r1) (List.mem_cons_of_mem _ List.mem_cons_self)
          rw [hrt] at hrk
          obtain ⟨q0, hq0⟩ := va_pl_get (X := []) (f := dp_ce aC kd G) hrL
          rw [List.nil_append] at hq0
          obtain ⟨hz, h⟩ := h
          have hq1 := hq0
          rw [dp_ce_obj hrk ht] at hq0
          refine va_put (D := D) (C := C) (T := T) (N := N) (Ts := lw_tb2) (v := .int x0) (ty := .boolean) C_.1 C_.2.1 C_.2.2.2.2.2.1 hin ty0 hty hnm C_.2.2.2.2.1 C_.2.2.2.2.2.2.2.1 hP hD hS q0 hq0 hcl j hj (C_.2.2.2.2.2.1 _ hlink) (fun x h => h) hfin hpd (by rcases hz with rfl | rfl <;> rfl) (by rcases hz with rfl | rfl <;> rfl) (by rw [List.length_map, List.length_range, hN]; exact hj) hd (fun H1 locs1 hP1 hD1 hS1 => ?_)
          rw [dp_pls hD hrL hq1 (dp_e_put hrk ht hf) (fun b hb => ⟨dp_wI_ne hb, rfl⟩)] at hP1 hD1
          exact hY _ _ _ _ _ _ h hw hl (dp_okt (dp_okt hst)) hls p e s m margs below meth c H1 locs1 lsM C_ hlv hP1 hD1 hS1
theorem ok_getIN {k pc t j idx N : Nat} {C : String} {T : u_T} (hcl : vwCl[t]? = some (C, T, N)) (hin : ∀ w ∈ u_ws C T N, w ∈ lw_tb2) (ht : t < 9) (hN : dp_nf t = N) (hj : j < N) {host : String} (hf : dp_fr t j = none) (hlink : Cond.fieldLinkNest (mY k).cls idx (T j).1 (T j).2.1 (T j).2.2.1 host ∈ lw_nw) (hd : decode (mB k) pc = .ok (.getfield idx, 3)) : dp_OK k pc (o_getI t j) := by
  intro l D L kd aC Y hY ls st G Q h hw hl hst hls p e s m margs below meth c H locs lsM C_ hlv hP hD hS
  rcases st with _ | ⟨v0, st⟩
  · exact False.elim h
  · rcases v0 with x0 | r0
    · exact False.elim h
    · skip
      obtain ⟨hbq, h⟩ := dp_cd h
      have hrt := Nat.eq_of_beq_eq_true hbq
      obtain ⟨hrL, hrk⟩ : r0.2 ∈ L ∧ kd r0.2 = r0.1 := hst (.inr r0) List.mem_cons_self
      rw [hrt] at hrk
      obtain ⟨q0, hq0⟩ := va_pl_get (X := []) (f := dp_ce aC kd G) hrL
      rw [List.nil_append] at hq0
      rw [dp_ce_obj hrk ht] at hq0
      refine va_getN (D := D) (C := C) (T := T) (N := N) (Ts := lw_tb2) (v := (.int (G.1 r0.2 j))) C_.1 C_.2.1 C_.2.2.2.2.2.1 hin C_.2.2.2.2.1 C_.2.2.2.2.2.2.2.1 hP q0 hq0 hcl j hj (dp_N_use C_.2.2.2.2.2.2.2.2 hlink) (fun x h => h) ?_ hd ?_
      · rw [dp_mget _ (hN ▸ hj)]; unfold dp_fv; rw [hf]
      · exact hY _ _ _ _ _ _ h hw hl (dp_okc trivial (dp_okt hst)) hls p e s m margs below meth c H locs lsM C_ hlv hP hD hS
theorem ok_getRN {k pc t j idx N : Nat} {C : String} {T : u_T} (hcl : vwCl[t]? = some (C, T, N)) (hin : ∀ w ∈ u_ws C T N, w ∈ lw_tb2) (ht : t < 9) (hN : dp_nf t = N) (hj : j < N) {host : String} {u : Nat} (hf : dp_fr t j = some u) (hlink : Cond.fieldLinkNest (mY k).cls idx (T j).1 (T j).2.1 (T j).2.2.1 host ∈ lw_nw) (hd : decode (mB k) pc = .ok (.getfield idx, 3)) : dp_OK k pc (o_getR t j u) := by
  intro l D L kd aC Y hY ls st G Q h hw hl hst hls p e s m margs below meth c H locs lsM C_ hlv hP hD hS
  rcases st with _ | ⟨v0, st⟩
  · exact False.elim h
  · rcases v0 with x0 | r0
    · exact False.elim h
    · skip
      obtain ⟨hbq, h⟩ := dp_cd h
      have hrt := Nat.eq_of_beq_eq_true hbq
      obtain ⟨hrL, hrk⟩ : r0.2 ∈ L ∧ kd r0.2 = r0.1 := hst (.inr r0) List.mem_cons_self
      rw [hrt] at hrk
      obtain ⟨q0, hq0⟩ := va_pl_get (X := []) (f := dp_ce aC kd G) hrL
      rw [List.nil_append] at hq0
      rw [dp_ce_obj hrk ht] at hq0
      refine va_getN (D := D) (C := C) (T := T) (N := N) (Ts := lw_tb2) (v := (.ref (G.2 r0.2 j))) C_.1 C_.2.1 C_.2.2.2.2.2.1 hin C_.2.2.2.2.1 C_.2.2.2.2.2.2.2.1 hP q0 hq0 hcl j hj (dp_N_use C_.2.2.2.2.2.2.2.2 hlink) (fun x h => h) ?_ hd ?_
      · rw [dp_mget _ (hN ▸ hj)]; unfold dp_fv; rw [hf]
      · exact hY _ _ _ _ _ _ h hw hl (dp_okc (hw r0.2 hrL j u (by rw [hrk]; unfold dp_rt; rw [if_pos ht]; exact hf)) (dp_okt hst)) hls p e s m margs below meth c H locs lsM C_ hlv hP hD hS
theorem ok_putIN {k pc t j idx N : Nat} {C : String} {T : u_T} (hcl : vwCl[t]? = some (C, T, N)) (hin : ∀ w ∈ u_ws C T N, w ∈ lw_tb2) (ht : t < 9) (hN : dp_nf t = N) (hj : j < N) {host : String} (hf : dp_fr t j = none) (ty0 : Nat → FieldType) (hty : ∀ k, k < N → parseFieldDescriptor (T k).2.2.1 = some (ty0 k)) (hnm : ∀ a, a < N → ∀ b, b < N → a ≠ b → (T a).2.1 ≠ (T b).2.1) (hfin : (T j).2.2.2 = false) (hpd : parseFieldDescriptor (T j).2.2.1 = some .int) (hlink : Cond.fieldLinkNest (mY k).cls idx (T j).1 (T j).2.1 (T j).2.2.1 host ∈ lw_nw) (hd : decode (mB k) pc = .ok (.putfield idx, 3)) : dp_OK k pc (o_putI t j) := by
  intro l D L kd aC Y hY ls st G Q h hw hl hst hls p e s m margs below meth c H locs lsM C_ hlv hP hD hS
  rcases st with _ | ⟨v0, st⟩
  · exact False.elim h
  · rcases v0 with x0 | r0
    rotate_left
    · exact False.elim h
    · skip
      rcases st with _ | ⟨v1, st⟩
      · exact False.elim h
      · rcases v1 with x1 | r1
        · exact False.elim h
        · skip
          obtain ⟨hbq, h⟩ := dp_cd h
          have hrt := Nat.eq_of_beq_eq_true hbq
          obtain ⟨hrL, hrk⟩ : r1.2 ∈ L ∧ kd r1.2 = r1.1 := hst (.inr r1) (List.mem_cons_of_mem _ List.mem_cons_self)
          rw [hrt] at hrk
          obtain ⟨q0, hq0⟩ := va_pl_get (X := []) (f := dp_ce aC kd G) hrL
          rw [List.nil_append] at hq0
          have hq1 := hq0
          rw [dp_ce_obj hrk ht] at hq0
          refine va_putN (D := D) (C := C) (T := T) (N := N) (Ts := lw_tb2) (v := .int x0) (ty := .int) C_.1 C_.2.1 C_.2.2.2.2.2.1 hin ty0 hty hnm C_.2.2.2.2.1 C_.2.2.2.2.2.2.2.1 hP hD hS q0 hq0 hcl j hj (dp_N_use C_.2.2.2.2.2.2.2.2 hlink) (fun x h => h) hfin hpd rfl rfl (by rw [List.length_map, List.length_range, hN]; exact hj) hd (fun H1 locs1 hP1 hD1 hS1 => ?_)
          rw [dp_pls hD hrL hq1 (dp_e_put hrk ht hf) (fun b hb => ⟨dp_wI_ne hb, rfl⟩)] at hP1 hD1
          exact hY _ _ _ _ _ _ h hw hl (dp_okt (dp_okt hst)) hls p e s m margs below meth c H1 locs1 lsM C_ hlv hP1 hD1 hS1
theorem ok_putZN {k pc t j idx N : Nat} {C : String} {T : u_T} (hcl : vwCl[t]? = some (C, T, N)) (hin : ∀ w ∈ u_ws C T N, w ∈ lw_tb2) (ht : t < 9) (hN : dp_nf t = N) (hj : j < N) {host : String} (hf : dp_fr t j = none) (ty0 : Nat → FieldType) (hty : ∀ k, k < N → parseFieldDescriptor (T k).2.2.1 = some (ty0 k)) (hnm : ∀ a, a < N → ∀ b, b < N → a ≠ b → (T a).2.1 ≠ (T b).2.1) (hfin : (T j).2.2.2 = false) (hpd : parseFieldDescriptor (T j).2.2.1 = some .boolean) (hlink : Cond.fieldLinkNest (mY k).cls idx (T j).1 (T j).2.1 (T j).2.2.1 host ∈ lw_nw) (hd : decode (mB k) pc = .ok (.putfield idx, 3)) : dp_OK k pc (o_putZ t j) := by
  intro l D L kd aC Y hY ls st G Q h hw hl hst hls p e s m margs below meth c H locs lsM C_ hlv hP hD hS
  rcases st with _ | ⟨v0, st⟩
  · exact False.elim h
  · rcases v0 with x0 | r0
    rotate_left
    · exact False.elim h
    · skip
      rcases st with _ | ⟨v1, st⟩
      · exact False.elim h
      · rcases v1 with x1 | r1
        · exact False.elim h
        · skip
          obtain ⟨hbq, h⟩ := dp_cd h
          have hrt := Nat.eq_of_beq_eq_true hbq
          obtain ⟨hrL, hrk⟩ : r1.2 ∈ L ∧ kd r1.2 = r1.1 := hst (.inr r1) (List.mem_cons_of_mem _ List.mem_cons_self)
          rw [hrt] at hrk
          obtain ⟨q0, hq0⟩ := va_pl_get (X := []) (f := dp_ce aC kd G) hrL
          rw [List.nil_append] at hq0
          obtain ⟨hz, h⟩ := h
          have hq1 := hq0
          rw [dp_ce_obj hrk ht] at hq0
          refine va_putN (D := D) (C := C) (T := T) (N := N) (Ts := lw_tb2) (v := .int x0) (ty := .boolean) C_.1 C_.2.1 C_.2.2.2.2.2.1 hin ty0 hty hnm C_.2.2.2.2.1 C_.2.2.2.2.2.2.2.1 hP hD hS q0 hq0 hcl j hj (dp_N_use C_.2.2.2.2.2.2.2.2 hlink) (fun x h => h) hfin hpd (by rcases hz with rfl | rfl <;> rfl) (by rcases hz with rfl | rfl <;> rfl) (by rw [List.length_map, List.length_range, hN]; exact hj) hd (fun H1 locs1 hP1 hD1 hS1 => ?_)
          rw [dp_pls hD hrL hq1 (dp_e_put hrk ht hf) (fun b hb => ⟨dp_wI_ne hb, rfl⟩)] at hP1 hD1
          exact hY _ _ _ _ _ _ h hw hl (dp_okt (dp_okt hst)) hls p e s m margs below meth c H1 locs1 lsM C_ hlv hP1 hD1 hS1
theorem ok_iald {k pc : Nat} (hd : decode (mB k) pc = .ok (.iaload, 1)) : dp_OK k pc o_iald := by
  intro l D L kd aC Y hY ls st G Q h hw hl hst hls p e s m margs below meth c H locs lsM C hlv hP hD hS
  rcases st with _ | ⟨v0, st⟩
  · exact False.elim h
  · rcases v0 with x0 | r0
    rotate_left
    · exact False.elim h
    · skip
      rcases st with _ | ⟨v1, st⟩
      · exact False.elim h
      · rcases v1 with x1 | r1
        · exact False.elim h
        · skip
          obtain ⟨hbq, h⟩ := dp_cd h
          have hak := Nat.eq_of_beq_eq_true hbq
          obtain ⟨hrL, hrk⟩ : r1.2 ∈ L ∧ kd r1.2 = r1.1 := hst (.inr r1) (List.mem_cons_of_mem _ List.mem_cons_self)
          obtain ⟨q0, hq0⟩ := va_pl_get (X := []) (f := dp_ce aC kd G) hrL
          rw [List.nil_append, dp_ce_int hrk (dp_ak_obj (by omega)) (by omega), hak] at hq0
          refine va_iald C.1 C.2.1 C.2.2.2.2.2.2.2.1 hP q0 0 hq0 rfl h.1 hd ?_
          exact hY _ _ _ _ _ _ h.2 hw hl (dp_okc trivial (dp_okt (dp_okt hst))) hls p e s m margs below meth c H locs lsM C hlv hP hD hS
theorem ok_cald {k pc : Nat} (hd : decode (mB k) pc = .ok (.caload, 1)) : dp_OK k pc o_cald := by
  intro l D L kd aC Y hY ls st G Q h hw hl hst hls p e s m margs below meth c H locs lsM C hlv hP hD hS
  rcases st with _ | ⟨v0, st⟩
  · exact False.elim h
  · rcases v0 with x0 | r0
    rotate_left
    · exact False.elim h
    · skip
      rcases st with _ | ⟨v1, st⟩
      · exact False.elim h
      · rcases v1 with x1 | r1
        · exact False.elim h
        · skip
          obtain ⟨hbq, h⟩ := dp_cd h
          have hak := Nat.eq_of_beq_eq_true hbq
          obtain ⟨hrL, hrk⟩ : r1.2 ∈ L ∧ kd r1.2 = r1.1 := hst (.inr r1) (List.mem_cons_of_mem _ List.mem_cons_self)
          obtain ⟨q0, hq0⟩ := va_pl_get (X := []) (f := dp_ce aC kd G) hrL
          rw [List.nil_append, dp_ce_int hrk (dp_ak_obj (by omega)) (by omega), hak] at hq0
          refine va_cald C.1 C.2.1 C.2.2.2.2.2.2.2.1 hP q0 1 hq0 rfl h.1 hd ?_
          exact hY _ _ _ _ _ _ h.2 hw hl (dp_okc trivial (dp_okt (dp_okt hst))) hls p e s m margs below meth c H locs lsM C hlv hP hD hS
theorem ok_iast {k pc : Nat} (hd : decode (mB k) pc = .ok (.iastore, 1)) : dp_OK k pc o_iast := by
  intro l D L kd aC Y hY ls st G Q h hw hl hst hls p e s m margs below meth c H locs lsM C hlv hP hD hS
  rcases st with _ | ⟨v0, st⟩
  · exact False.elim h
  · rcases v0 with x0 | r0
    rotate_left
    · exact False.elim h
    · skip
      rcases st with _ | ⟨v1, st⟩
      · exact False.elim h
      · rcases v1 with x1 | r1
        rotate_left
        · exact False.elim h
        · skip
          rcases st with _ | ⟨v2, st⟩
          · exact False.elim h
          · rcases v2 with x2 | r2
            · exact False.elim h
            · skip
              obtain ⟨hbq, h⟩ := dp_cd h
              have hak := Nat.eq_of_beq_eq_true hbq
              obtain ⟨hrL, hrk⟩ : r2.2 ∈ L ∧ kd r2.2 = r2.1 := hst (.inr r2) (List.mem_cons_of_mem _ (List.mem_cons_of_mem _ List.mem_cons_self))
              obtain ⟨q0, hq0⟩ := va_pl_get (X := []) (f := dp_ce aC kd G) hrL
              rw [List.nil_append] at hq0
              have hq1 := hq0
              rw [dp_ce_int hrk (dp_ak_obj (by omega)) (by omega)] at hq0
              rw [hak] at hq0
              refine va_iast C.1 C.2.1 C.2.2.2.2.2.2.2.1 hP hD hS q0 0 hq0 rfl h.1 hd (fun H1 locs1 hP1 hD1 hS1 => ?_)
              rw [← hak] at hP1 hD1
              rw [dp_pls hD hrL hq1 (dp_e_iast hrk (dp_ak_obj (by omega)) (by omega)) (fun b hb => ⟨dp_wI_ne hb, rfl⟩)] at hP1 hD1
              exact hY _ _ _ _ _ _ h.2 hw hl (dp_okt (dp_okt (dp_okt hst))) hls p e s m margs below meth c H1 locs1 lsM C hlv hP1 hD1 hS1
theorem ok_cast {k pc : Nat} (hd : decode (mB k) pc = .ok (.castore, 1)) : dp_OK k pc o_cast := by
  intro l D L kd aC Y hY ls st G Q h hw hl hst hls p e s m margs below meth c H locs lsM C hlv hP hD hS
  rcases st with _ | ⟨v0, st⟩
  · exact False.elim h
  · rcases v0 with x0 | r0
    rotate_left
    · exact False.elim h
    · skip
      rcases st with _ | ⟨v1, st⟩
      · exact False.elim h
      · rcases v1 with x1 | r1
        rotate_left
        · exact False.elim h
        · skip
          rcases st with _ | ⟨v2, st⟩
          · exact False.elim h
          · rcases v2 with x2 | r2
            · exact False.elim h
            · skip
              obtain ⟨hbq, h⟩ := dp_cd h
              have hak := Nat.eq_of_beq_eq_true hbq
              obtain ⟨hrL, hrk⟩ : r2.2 ∈ L ∧ kd r2.2 = r2.1 := hst (.inr r2) (List.mem_cons_of_mem _ (List.mem_cons_of_mem _ List.mem_cons_self))
              obtain ⟨q0, hq0⟩ := va_pl_get (X := []) (f := dp_ce aC kd G) hrL
              rw [List.nil_append] at hq0
              have hq1 := hq0
              rw [dp_ce_int hrk (dp_ak_obj (by omega)) (by omega)] at hq0
              rw [hak] at hq0
              refine va_cast C.1 C.2.1 C.2.2.2.2.2.2.2.1 hP hD hS q0 1 hq0 rfl h.1 hd (fun H1 locs1 hP1 hD1 hS1 => ?_)
              rw [h.2.1] at hP1 hD1
              rw [← hak] at hP1 hD1
              rw [dp_pls hD hrL hq1 (dp_e_iast hrk (dp_ak_obj (by omega)) (by omega)) (fun b hb => ⟨dp_wI_ne hb, rfl⟩)] at hP1 hD1
              exact hY _ _ _ _ _ _ h.2.2 hw hl (dp_okt (dp_okt (dp_okt hst))) hls p e s m margs below meth c H1 locs1 lsM C hlv hP1 hD1 hS1
theorem ok_aald {k pc : Nat} (hd : decode (mB k) pc = .ok (.aaload, 1)) : dp_OK k pc o_aald := by
  intro l D L kd aC Y hY ls st G Q h hw hl hst hls p e s m margs below meth c H locs lsM C hlv hP hD hS
  rcases st with _ | ⟨v0, st⟩
  · exact False.elim h
  · rcases v0 with x0 | r0
    rotate_left
    · exact False.elim h
    · skip
      rcases st with _ | ⟨v1, st⟩
      · exact False.elim h
      · rcases v1 with x1 | r1
        · exact False.elim h
        · skip
          obtain ⟨hbq, h⟩ := dp_cd h
          rw [Bool.and_eq_true] at hbq
          obtain ⟨h13, h15⟩ := hbq
          have h13 := Nat.le_of_ble_eq_true h13
          have h15 := Nat.le_of_ble_eq_true h15
          obtain ⟨hin, h⟩ := h
          obtain ⟨hrL, hrk⟩ : r1.2 ∈ L ∧ kd r1.2 = r1.1 := hst (.inr r1) (List.mem_cons_of_mem _ List.mem_cons_self)
          obtain ⟨q0, hq0⟩ := va_pl_get (X := []) (f := dp_ce aC kd G) hrL
          rw [List.nil_append] at hq0
          have hlt : x0.toNatClampNeg < dp_al r1.1 := Nat.not_le.mp fun q => hin (Or.inr q)
          have hwt : ∀ u, dp_rt (kd r1.2) x0.toNatClampNeg = some u → G.2 r1.2 x0.toNatClampNeg ∈ L ∧ kd (G.2 r1.2 x0.toNatClampNeg) = u := fun u hu => hw r1.2 hrL _ u hu
          obtain ⟨t, a⟩ := r1
          dsimp only at hrk h13 h15 hin h hq0 hlt hwt ⊢
          rw [hrk] at hwt
          rcases (show t = 13 ∨ t = 14 ∨ t = 15 by omega) with rfl | rfl | rfl
          · rw [dp_ce_ref hrk (by decide) (by decide)] at hq0
            refine va_aldq C.1 C.2.1 C.2.2.2.2.2.2.2.1 hP q0 2 hq0 rfl hin hd ?_
            exact hY _ _ _ _ _ _ h hw hl (dp_okc (hwt 0 (by unfold dp_rt; rw [if_neg (by decide), if_pos ⟨by decide, by decide, hlt⟩]; rfl)) (dp_okt (dp_okt hst))) hls p e s m margs below meth c H locs lsM C hlv hP hD hS
          · rw [dp_ce_ref hrk (by decide) (by decide)] at hq0
            refine va_aldq C.1 C.2.1 C.2.2.2.2.2.2.2.1 hP q0 3 hq0 rfl hin hd ?_
            exact hY _ _ _ _ _ _ h hw hl (dp_okc (hwt 3 (by unfold dp_rt; rw [if_neg (by decide), if_pos ⟨by decide, by decide, hlt⟩]; rfl)) (dp_okt (dp_okt hst))) hls p e s m margs below meth c H locs lsM C hlv hP hD hS
          · rw [dp_ce_ref hrk (by decide) (by decide)] at hq0
            refine va_aldq C.1 C.2.1 C.2.2.2.2.2.2.2.1 hP q0 4 hq0 rfl hin hd ?_
            exact hY _ _ _ _ _ _ h hw hl (dp_okc (hwt 2 (by unfold dp_rt; rw [if_neg (by decide), if_pos ⟨by decide, by decide, hlt⟩]; rfl)) (dp_okt (dp_okt hst))) hls p e s m margs below meth c H locs lsM C hlv hP hD hS
theorem ok_aast {k pc : Nat} (hd : decode (mB k) pc = .ok (.aastore, 1)) : dp_OK k pc o_aast := by
  intro l D L kd aC Y hY ls st G Q h hw hl hst hls p e s m margs below meth c H locs lsM C hlv hP hD hS
  rcases st with _ | ⟨v0, st⟩
  · exact False.elim h
  · rcases v0 with x0 | r0
    · exact False.elim h
    · skip
      rcases st with _ | ⟨v1, st⟩
      · exact False.elim h
      · rcases v1 with x1 | r1
        rotate_left
        · exact False.elim h
        · skip
          rcases st with _ | ⟨v2, st⟩
          · exact False.elim h
          · rcases v2 with x2 | r2
            · exact False.elim h
            · skip
              obtain ⟨hbq, h⟩ := dp_cd h
              rw [Bool.and_eq_true, Bool.and_eq_true] at hbq
              obtain ⟨⟨h13, h15⟩, het⟩ := hbq
              have h13 := Nat.le_of_ble_eq_true h13
              have h15 := Nat.le_of_ble_eq_true h15
              have het := Nat.eq_of_beq_eq_true het
              obtain ⟨hin, hh⟩ := h
              obtain ⟨hrL, hrk⟩ : r2.2 ∈ L ∧ kd r2.2 = r2.1 := hst (.inr r2) (List.mem_cons_of_mem _ (List.mem_cons_of_mem _ List.mem_cons_self))
              obtain ⟨hvL, hvk⟩ : r0.2 ∈ L ∧ kd r0.2 = r0.1 := hst (.inr r0) List.mem_cons_self
              obtain ⟨q0, hq0⟩ := va_pl_get (X := []) (f := dp_ce aC kd G) hrL
              rw [List.nil_append] at hq0
              have hq1 := hq0
              obtain ⟨q2, hq2⟩ := va_pl_get (X := []) (f := dp_ce aC kd G) hvL
              rw [List.nil_append] at hq2
              have hWT : dp_WT L kd (wR G r2.2 x1.toNatClampNeg r0.2) := dp_WT_wR hw hvL (by rw [hrk]; exact ⟨h13, h15⟩) (by rw [hvk, hrk, het])
              rw [het] at hvk
              obtain ⟨t, a⟩ := r2
              dsimp only at hrk h13 h15 hin hh hq0 hq1 hWT hrL hvk ⊢
              rcases (show t = 13 ∨ t = 14 ∨ t = 15 by omega) with rfl | rfl | rfl
              · rw [dp_ce_ref hrk (by decide) (by decide)] at hq0
                rw [dp_ce_obj (t := 0) hvk (by decide)] at hq2
                refine va_astq (r := (RX0, TX0, 8)) C.1 C.2.1 C.2.2.2.2.2.2.2.1 hP hD hS q0 2 q2 0 hq0 rfl hq2 rfl hin hd (fun H1 locs1 hP1 hD1 hS1 => ?_)
                rw [dp_pls hD hrL hq1 (dp_e_aast hrk (by decide) (by decide)) (fun b hb => ⟨rfl, dp_wR_ne hb⟩)] at hP1 hD1
                exact hY _ _ _ _ _ _ hh hWT hl (dp_okt (dp_okt (dp_okt hst))) hls p e s m margs below meth c H1 locs1 lsM C hlv hP1 hD1 hS1
              · rw [dp_ce_ref hrk (by decide) (by decide)] at hq0
                rw [dp_ce_obj (t := 3) hvk (by decide)] at hq2
                refine va_astq (r := (RX3, TX3, 4)) C.1 C.2.1 C.2.2.2.2.2.2.2.1 hP hD hS q0 3 q2 3 hq0 rfl hq2 rfl hin hd (fun H1 locs1 hP1 hD1 hS1 => ?_)
                rw [dp_pls hD hrL hq1 (dp_e_aast hrk (by decide) (by decide)) (fun b hb => ⟨rfl, dp_wR_ne hb⟩)] at hP1 hD1
                exact hY _ _ _ _ _ _ hh hWT hl (dp_okt (dp_okt (dp_okt hst))) hls p e s m margs below meth c H1 locs1 lsM C hlv hP1 hD1 hS1
              · rw [dp_ce_ref hrk (by decide) (by decide)] at hq0
                rw [dp_ce_obj (t := 2) hvk (by decide)] at hq2
                refine va_astq (r := (RX2, TX2, 12)) C.1 C.2.1 C.2.2.2.2.2.2.2.1 hP hD hS q0 4 q2 2 hq0 rfl hq2 rfl hin hd (fun H1 locs1 hP1 hD1 hS1 => ?_)
                rw [dp_pls hD hrL hq1 (dp_e_aast hrk (by decide) (by decide)) (fun b hb => ⟨rfl, dp_wR_ne hb⟩)] at hP1 hD1
                exact hY _ _ _ _ _ _ hh hWT hl (dp_okt (dp_okt (dp_okt hst))) hls p e s m margs below meth c H1 locs1 lsM C hlv hP1 hD1 hS1
theorem ok_max {k pc idx : Nat} (h1 : Cond.methodLink (mY k).cls idx Lib.Math.max.name ∈ lw_tb2) (h2 : Cond.static Lib.Math.max.name ∈ lw_tb2) (h3 : Cond.initialized "java/lang/Math" ∈ lw_tb2) (h4 : Cond.code Lib.Math.max.name Lib.Math.max.code 2 (some .int) ∈ lw_tb2) (h5 : 1 ≤ (rm k).frames) (h6 : 21 ≤ (rm k).locals) (hd : decode (mB k) pc = .ok (.invokestatic idx, 3)) : dp_OK k pc o_max := by
  intro l D L kd aC Y hY ls st G Q h hw hl hst hls p e s m margs below meth c H locs lsM C hlv hP hD hS
  rcases st with _ | ⟨v0, st⟩
  · exact False.elim h
  · rcases v0 with x0 | r0
    rotate_left
    · exact False.elim h
    · skip
      rcases st with _ | ⟨v1, st⟩
      · exact False.elim h
      · rcases v1 with x1 | r1
        rotate_left
        · exact False.elim h
        · skip
          obtain ⟨hbq, h⟩ := dp_cd h
          have hle := Nat.le_of_ble_eq_true hbq
          refine va_mmax C.1 C.2.1 (C.2.2.2.1.trans hlv.1.symm) C.2.2.2.2.1 (C.2.2.2.2.2.1 _ h1) (C.2.2.2.2.2.1 _ h2) (C.2.2.2.2.2.1 _ h3) (C.2.2.2.2.2.1 _ h4) h5 (by rw [dp_cat]; omega) (Nat.zero_le _) (Nat.zero_le _) hd ?_
          exact hY _ _ _ _ _ _ h hw hl (dp_okc trivial (dp_okt (dp_okt hst))) hls p e s m margs below meth c H locs lsM C hlv hP hD hS
theorem ok_min {k pc idx : Nat} (h1 : Cond.methodLink (mY k).cls idx Lib.Math.min.name ∈ lw_tb2) (h2 : Cond.static Lib.Math.min.name ∈ lw_tb2) (h3 : Cond.initialized "java/lang/Math" ∈ lw_tb2) (h4 : Cond.code Lib.Math.min.name Lib.Math.min.code 2 (some .int) ∈ lw_tb2) (h5 : 1 ≤ (rm k).frames) (h6 : 21 ≤ (rm k).locals) (hd : decode (mB k) pc = .ok (.invokestatic idx, 3)) : dp_OK k pc o_min := by
  intro l D L kd aC Y hY ls st G Q h hw hl hst hls p e s m margs below meth c H locs lsM C hlv hP hD hS
  rcases st with _ | ⟨v0, st⟩
  · exact False.elim h
  · rcases v0 with x0 | r0
    rotate_left
    · exact False.elim h
    · skip
      rcases st with _ | ⟨v1, st⟩
      · exact False.elim h
      · rcases v1 with x1 | r1
        rotate_left
        · exact False.elim h
        · skip
          obtain ⟨hbq, h⟩ := dp_cd h
          have hle := Nat.le_of_ble_eq_true hbq
          refine va_mmin C.1 C.2.1 (C.2.2.2.1.trans hlv.1.symm) C.2.2.2.2.1 (C.2.2.2.2.2.1 _ h1) (C.2.2.2.2.2.1 _ h2) (C.2.2.2.2.2.1 _ h3) (C.2.2.2.2.2.1 _ h4) h5 (by rw [dp_cat]; omega) (Nat.zero_le _) (Nat.zero_le _) hd ?_
          exact hY _ _ _ _ _ _ h hw hl (dp_okc trivial (dp_okt (dp_okt hst))) hls p e s m margs below meth c H locs lsM C hlv hP hD hS
theorem ok_acp {k pc idx : Nat} (h1 : Cond.methodLink (mY k).cls idx arraycopyName ∈ lw_tb2) (h2 : Cond.native arraycopyName ∈ lw_tb2) (h3 : Cond.static arraycopyName ∈ lw_tb2) (h4 : Cond.initialized "java/lang/System" ∈ lw_tb2) (h5 : 1 ≤ (rm k).frames) (h6 : 8 + (nativeFrameWords "java/lang/System" "arraycopy" 5 + 11) ≤ (rm k).locals) (hd : decode (mB k) pc = .ok (.invokestatic idx, 3)) : dp_OK k pc o_acp := by
  intro l D L kd aC Y hY ls st G Q h hw hl hst hls p e s m margs below meth c H locs lsM C hlv hP hD hS
  rcases st with _ | ⟨v0, st⟩
  · exact False.elim h
  · rcases v0 with x0 | r0
    rotate_left
    · exact False.elim h
    · skip
      rcases st with _ | ⟨v1, st⟩
      · exact False.elim h
      · rcases v1 with x1 | r1
        rotate_left
        · exact False.elim h
        · skip
          rcases st with _ | ⟨v2, st⟩
          · exact False.elim h
          · rcases v2 with x2 | r2
            · exact False.elim h
            · skip
              rcases st with _ | ⟨v3, st⟩
              · exact False.elim h
              · rcases v3 with x3 | r3
                rotate_left
                · exact False.elim h
                · skip
                  rcases st with _ | ⟨v4, st⟩
                  · exact False.elim h
                  · rcases v4 with x4 | r4
                    · exact False.elim h
                    · skip
                      obtain ⟨hbq, h⟩ := dp_cd h
                      rw [Bool.and_eq_true, Bool.and_eq_true] at hbq
                      obtain ⟨⟨hr, hq⟩, hle⟩ := hbq
                      have hr := Nat.eq_of_beq_eq_true hr
                      have hq := Nat.eq_of_beq_eq_true hq
                      have hle := Nat.le_of_ble_eq_true hle
                      obtain ⟨⟨g1, g2, g3, g4, g5⟩, h⟩ := h
                      obtain ⟨hrL, hrk⟩ : r2.2 ∈ L ∧ kd r2.2 = r2.1 := hst (.inr r2) (List.mem_cons_of_mem _ (List.mem_cons_of_mem _ List.mem_cons_self))
                      obtain ⟨hqL, hqk⟩ : r4.2 ∈ L ∧ kd r4.2 = r4.1 := hst (.inr r4) (List.mem_cons_of_mem _ (List.mem_cons_of_mem _ (List.mem_cons_of_mem _ (List.mem_cons_of_mem _ List.mem_cons_self))))
                      obtain ⟨q0, hq0⟩ := va_pl_get (X := []) (f := dp_ce aC kd G) hqL
                      rw [List.nil_append, dp_ce_int hqk (dp_ak_obj (by omega)) (by omega), hq] at hq0
                      obtain ⟨q1, hq1⟩ := va_pl_get (X := []) (f := dp_ce aC kd G) hrL
                      rw [List.nil_append] at hq1
                      have hq3 := hq1
                      rw [dp_ce_int hrk (dp_ak_obj (by omega)) (by omega), hr] at hq1
                      refine va_copyi (ty := .int) C.1 C.2.1 (C.2.2.2.1.trans hlv.1.symm) C.2.2.2.2.1 (C.2.2.2.2.2.1 _ h1) (C.2.2.2.2.2.1 _ h2) (C.2.2.2.2.2.1 _ h3) (C.2.2.2.2.2.1 _ h4) C.2.2.2.2.2.2.2.1 hP hD hS q0 q1 0 0 hq0 hq1 rfl rfl rfl g1 g2 g3 g4 g5 (fun i hi => rfl) h5 (by rw [dp_cat]; omega) hd (fun H1 locs1 hP1 hD1 hS1 => ?_)
                      rw [← hr] at hP1 hD1
                      rw [dp_pls hD hrL hq3 (dp_e_acp hrk (dp_ak_obj (by omega)) (by omega)) (fun b hb => ⟨dp_wC_ne hb, rfl⟩)] at hP1 hD1
                      exact hY _ _ _ _ _ _ h hw hl (dp_okt (dp_okt (dp_okt (dp_okt (dp_okt hst))))) hls p e s m margs below meth c H1 locs1 lsM C hlv hP1 hD1 hS1
theorem dp_swIn {f : Nat → Prop} {d : Nat} {x : Int32} : ∀ (ts : List Nat) (lo : Int), dp_sw f ts lo x d → (∃ j t : Nat, ts[j]? = some t ∧ x.toInt = lo + j ∧ f t) ∨ ((∀ j : Nat, j < ts.length → ¬ x.toInt = lo + j) ∧ f d)
  | [], lo, h => Or.inr ⟨fun j hj => by simp at hj, h⟩
  | t :: ts, lo, h => by
    by_cases hx : x.toInt = lo
    · exact Or.inl ⟨0, t, rfl, by omega, h.1 hx⟩
    · rcases dp_swIn ts (lo + 1) (h.2 hx) with ⟨j, t', h1, h2, h3⟩ | ⟨h1, h2⟩
      · exact Or.inl ⟨j + 1, t', h1, by omega, h3⟩
      · refine Or.inr ⟨fun j hj => ?_, h2⟩
        cases j with
        | zero => omega
        | succ j =>
          have := h1 j (by simpa using hj)
          omega
def dp_offs (pc : Nat) : List Int → List Nat → Bool
  | [], [] => true
  | o :: os, t :: ts => decide ((pc : Int) + o = (t : Int)) && dp_offs pc os ts
  | _, _ => false
theorem dp_offs_at {pc : Nat} : ∀ (os : List Int) (ts : List Nat), dp_offs pc os ts = true → os.length = ts.length ∧ ∀ j t : Nat, ts[j]? = some t → ∃ o : Int, os[j]? = some o ∧ (pc : Int) + o = (t : Int)
  | [], [], _ => ⟨rfl, fun j t h => by simp at h⟩
  | [], t :: ts, h => Bool.noConfusion (show false = true from h)
  | o :: os, [], h => Bool.noConfusion (show false = true from h)
  | o :: os, t :: ts, h => by
    have h : (decide ((pc : Int) + o = (t : Int)) && dp_offs pc os ts) = true := h
    rw [Bool.and_eq_true, decide_eq_true_eq] at h
    obtain ⟨h1, h2⟩ := dp_offs_at os ts h.2
    refine ⟨by simp [h1], fun j t' hj => ?_⟩
    cases j with
    | zero =>
      have : t = t' := by simpa using hj
      exact ⟨o, rfl, by rw [← this]; exact h.1⟩
    | succ j => exact h2 j t' hj
theorem ok_tsw {k pc d len : Nat} {dflt lo hi : Int} {offs : Array Int} {ts : List Nat} (hd : decode (mB k) pc = .ok (.tableswitch dflt lo hi offs, len)) (ho : (hi = lo + offs.toList.length - 1) ∧ dp_offs pc offs.toList ts = true) (hdf : (pc : Int) + dflt = (d : Int)) : dp_OK k pc (o_tsw lo ts d) := by
  intro l D L kd aC Y hY ls st G Q h hw hl hst hls p e s m margs below meth c H locs lsM C hlv hP hD hS
  rcases st with _ | ⟨v0, st⟩
  · exact False.elim h
  · rcases v0 with x0 | r0
    rotate_left
    · exact False.elim h
    · skip
      obtain ⟨hlen, hat⟩ := dp_offs_at _ _ ho.2
      rcases dp_swIn ts lo h with ⟨j, t, h1, h2, h3⟩ | ⟨h1, h2⟩
      · have hj : j < ts.length := (List.getElem?_eq_some_iff.mp h1).1
        obtain ⟨off, g1, g2⟩ := hat j t h1
        have hh := ho.1
        refine lv_tableIn C.1 C.2.1 hd (by omega) (by omega) (off := off) ?_ g2 ?_
        · rw [show (x0.toInt - lo).toNat = j from by omega, ← Array.getElem?_toList]; exact g1
        · exact hY _ _ _ _ _ _ h3 hw hl (dp_okt hst) hls p e s m margs below meth c H locs lsM C hlv hP hD hS
      · have hh := ho.1
        refine lv_tableOut C.1 C.2.1 hd ?_ hdf ?_
        · by_cases hlo : x0.toInt < lo
          · exact Or.inl hlo
          · refine Or.inr ?_
            by_cases hhi : hi < x0.toInt
            · exact hhi
            · exfalso
              refine h1 (x0.toInt - lo).toNat (by omega) (by omega)
        · exact hY _ _ _ _ _ _ h2 hw hl (dp_okt hst) hls p e s m margs below meth c H locs lsM C hlv hP hD hS
theorem ok_vret {k pc : Nat} (hT : mT k = none) (hd : decode (mB k) pc = .ok (.return_, 1)) : dp_OK k pc o_vret := by
  intro l D L kd aC Y hY ls st G Q h hw hl hst hls p e s m margs below meth c H locs lsM C hlv hP hD hS
  rcases st with _ | ⟨v0, st⟩
  rotate_left
  · exact False.elim h
  have hr := C.2.2.1
  rw [hT] at hr
  unfold dp_Q
  rw [hT]
  exact W.vret C.1 C.2.1 hr (fun t ht hW => ⟨⟨G, rfl, ⟨h, hw⟩, by rw [ht]; exact hP, va_K.moved hW.alike C.2.2.2.2.2.2.2.1, hD, dp_N_warm hW C.2.2.2.2.2.2.2.2⟩, hS.F ht⟩) hS.2.2 hd (hlocks := C.2.2.2.2.2.2.1)
theorem ok_iret {k pc : Nat} (hT : mT k = some .int) (hd : decode (mB k) pc = .ok (.ireturn, 1)) : dp_OK k pc o_iret := by
  intro l D L kd aC Y hY ls st G Q h hw hl hst hls p e s m margs below meth c H locs lsM C hlv hP hD hS
  rcases st with _ | ⟨v0, st⟩
  · exact False.elim h
  · rcases v0 with x0 | r0
    rotate_left
    · exact False.elim h
    · skip
      rcases st with _ | ⟨v1, st⟩
      rotate_left
      · exact False.elim h
      have hr := C.2.2.1
      rw [hT] at hr
      unfold dp_Q
      rw [hT]
      exact W.iret C.1 C.2.1 hr (fun t ht hW => ⟨⟨x0, G, rfl, ⟨h, hw⟩, by rw [ht]; exact hP, va_K.moved hW.alike C.2.2.2.2.2.2.2.1, hD, dp_N_warm hW C.2.2.2.2.2.2.2.2⟩, hS.F ht⟩) hS.2.2 hd (hlocks := C.2.2.2.2.2.2.1)
theorem ok_zret {k pc : Nat} (hT : mT k = some .boolean) (hd : decode (mB k) pc = .ok (.ireturn, 1)) : dp_OK k pc o_zret := by
  intro l D L kd aC Y hY ls st G Q h hw hl hst hls p e s m margs below meth c H locs lsM C hlv hP hD hS
  rcases st with _ | ⟨v0, st⟩
  · exact False.elim h
  · rcases v0 with x0 | r0
    rotate_left
    · exact False.elim h
    · skip
      rcases st with _ | ⟨v1, st⟩
      rotate_left
      · exact False.elim h
      have hr := C.2.2.1
      rw [hT] at hr
      unfold dp_Q
      rw [hT]
      exact W.zret C.1 C.2.1 hr (by rcases h.1 with rfl | rfl <;> rfl) (fun t ht hW => ⟨⟨x0, G, rfl, ⟨h.2, hw⟩, by rw [ht]; exact hP, va_K.moved hW.alike C.2.2.2.2.2.2.2.1, hD, dp_N_warm hW C.2.2.2.2.2.2.2.2⟩, hS.F ht⟩) hS.2.2 hd (hlocks := C.2.2.2.2.2.2.1)
theorem dp_FB {D : va_G} {L : List Nat} {kd aC : Nat → Nat} {G : Mm} {as : List Value} : FrameBlind (va_Pc as (dp_B D L kd aC G)) := fun a U g mk q => ⟨q.1, q.2.1, va_K.moved (u := U) (U := U.calling g mk a) (Vm.Alike.refl U.vm) q.2.2.1, q.2.2.2.1, dp_N_same (s := U) (U := U.calling g mk a) rfl q.2.2.2.2⟩
theorem dp_mWc (k : Nat) (h : Cond.code (mY k) (mB k) (mL k) (mT k) ∈ lw_tb2) (hg : goodWord (Cond.code (mY k) (mB k) (mL k) (mT k)) = true) : GoodIn lw_tb2 (mW k) := by
  intro w hw
  rcases List.mem_cons.mp hw with rfl | hw
  · exact ⟨h, good_of_word hg⟩
  · exact dp_good w hw
theorem dp_wsIn {ws ws' : List Cond} (h1 : GoodIn lw_tb2 ws) (h2 : GoodIn lw_tb2 ws') : GoodIn lw_tb2 (ws ++ ws') := fun w h => (List.mem_append.mp h).elim (h1 w) (h2 w)
theorem dp_drop_split {n : Nat} {st : List Vl} {r : Vl} {rest : List Vl} (h : st.drop n = r :: rest) : st = (st.take n).reverse.reverse ++ r :: rest ∧ (st.take n).reverse.length = n := by
  have h1 := List.take_append_drop n st
  rw [h] at h1
  refine ⟨by rw [List.reverse_reverse]; exact h1.symm, ?_⟩
  rw [List.length_reverse, List.length_take]
  have : (st.drop n).length = rest.length + 1 := by rw [h]; rfl
  rw [List.length_drop] at this
  omega
theorem ok_callv {k k' pc idx n mLl : Nat} (h1 : Cond.methodLink (mY k).cls idx (mY k') ∈ lw_tb2) (h2 : Cond.static (mY k') ∈ lw_tb2) (h4 : Cond.initialized (mY k').cls ∈ lw_tb2) (h5 : Cond.code (mY k') (mB k') (mL k') (mT k') ∈ lw_tb2) (hpn : plainName (mY k').cls = true) (hml : n ≤ mL k') (hd0 : (mY k').cls ≠ "java/lang/invoke/MethodHandle" ∧ (mY k').cls ≠ "java/lang/invoke/VarHandle" ∧ (parseMethodDescriptor (mY k').desc).map (fun d => d.parameters.length) = some n) (hR : (rm k').frames + 1 ≤ (rm k).frames ∧ 8 + (mL k' + 11) + (rm k').locals ≤ (rm k).locals) (hT : mT k' = none) (hd : decode (mB k) pc = .ok (.invokestatic idx, 3)) (hmm : mL k' = mLl := by rfl) (hown : (mY k').cls = (mY k).cls := by rfl) : dp_OK k pc (o_call k' mLl n true) := by
  intro l D L kd aC Y hY ls st G Q h hw hl hst hls p e s m margs below meth c H locs lsM C hlv hP hD hS
  subst hmm
  obtain ⟨hbq, h⟩ := dp_cd h
  rw [Bool.and_eq_true] at hbq
  have hn := Nat.le_of_ble_eq_true hbq.1
  have hle := Nat.le_of_ble_eq_true hbq.2
  have hsp : st.map dp_tv = ((st.take n).reverse.map dp_tv).reverse ++ (st.drop n).map dp_tv := by rw [← List.map_reverse, List.reverse_reverse, ← List.map_append, List.take_append_drop]
  have hlen : (st.take n).reverse.length = n := by rw [List.length_reverse, List.length_take]; omega
  have hM := dp_met hpn (by rw [hlen]; exact hml) (hY _ _ _ _ _ _ h) hw (fun v hv => hst v (List.mem_of_mem_take (List.mem_reverse.mp hv)))
  have hx1 : dp_Q D L kd aC k' (fun x G' => Y k (pc + 3) ls (cond true (st.drop n) (vI x :: st.drop n)) G' Q) = va_Qv (fun G' : Mm => Y k (pc + 3) ls (st.drop n) G' Q ∧ dp_WT L kd G') (fun G' t => dp_B D L kd aC G' t) (fun q => q ∈ L) := by unfold dp_Q; rw [hT]; rfl
  rw [hx1] at hM
  refine va_callv (va_runS (As := (st.take n).reverse.map dp_tv) (rest := (st.drop n).map dp_tv) ⟨C.1, C.2.1, C.2.2.2.1, C.2.2.2.2.1, C.2.2.2.2.2.1⟩ hM (cwS n C.2.2.2.2.2.1 ?_ rfl rfl rfl ?_ hR) ⟨dp_FB, fun U hU hW => ⟨rfl, by rw [hU]; exact hP, va_K.moved hW.alike C.2.2.2.2.2.2.2.1, hD, dp_N_warm hW C.2.2.2.2.2.2.2.2⟩⟩ rfl (by rw [List.length_map]; exact hlen) hlv.1 hsp (lv_room (by rw [dp_cat]; exact hle)) hd ⟨Nat.zero_le _, Nat.zero_le _⟩) hS (fun q _ h => h) (fun q h => h) (fun u t H1 locs1 ht hvm hw1 hB1 hz1 hk1 hS1 => ?_)
  · rw [← hown]
    refine dp_wsIn ?_ (dp_mWc k' h5 rfl)
    intro w hw
    simp only [List.mem_cons, List.mem_nil_iff, or_false] at hw
    rcases hw with rfl | rfl | rfl
    · rw [hown]; exact dp_good _ h1
    · exact dp_good _ h2
    · exact dp_good _ h4
  · exact ⟨hown, hd0⟩
  · obtain ⟨hP1, hK1, hD1, -⟩ := hB1
    rw [ht] at hP1
    exact hY _ _ _ _ _ _ hw1.1 hw1.2 hl (fun w hw => hst w (List.mem_of_mem_drop hw)) hls p e s m margs below meth c H1 locs1 lsM C hlv hP1 hD1 hS1
theorem ok_callVv {k k' pc idx n t N mLl : Nat} {C : String} {T : u_T} (hcl : vwCl[t]? = some (C, T, N)) (hcc : (mY k').cls = C) (ht : t < 9) (h1 : Cond.methodLink (mY k).cls idx (mY k') ∈ lw_tb2) (h2 : Cond.instanceMethod (mY k') ∈ lw_tb2) (h3 : Cond.selects C (mY k') (mY k') ∈ lw_tb2) (h4 : Cond.initialized (mY k').cls ∈ lw_tb2) (h5 : Cond.code (mY k') (mB k') (mL k') (mT k') ∈ lw_tb2) (hpn : plainName (mY k').cls = true) (hml : n + 1 ≤ mL k') (hd0 : (mY k').cls ≠ "java/lang/invoke/MethodHandle" ∧ (mY k').cls ≠ "java/lang/invoke/VarHandle" ∧ (parseMethodDescriptor (mY k').desc).map (fun d => d.parameters.length) = some n) (hR : (rm k').frames + 1 ≤ (rm k).frames ∧ 8 + (mL k' + 11) + (rm k').locals ≤ (rm k).locals) (hT : mT k' = none) (hd : decode (mB k) pc = .ok (.invokevirtual idx, 3)) (hmm : mL k' = mLl := by rfl) : dp_OK k pc (o_callV k' mLl t n true) := by
  intro l D L kd aC Y hY ls st G Q h hw hl hst hls p e s m margs below meth c H locs lsM C_ hlv hP hD hS
  subst hmm
  unfold o_callV at h
  rcases hdr : st.drop n with _ | ⟨v0, rest⟩
  · rw [hdr] at h; exact False.elim h
  rw [hdr] at h
  rcases v0 with x0 | r
  · exact False.elim h
  obtain ⟨hbq, h⟩ := dp_cd h
  rw [Bool.and_eq_true] at hbq
  have hrt := Nat.eq_of_beq_eq_true hbq.1
  have hle := Nat.le_of_ble_eq_true hbq.2
  obtain ⟨hsp0, hlen⟩ := dp_drop_split hdr
  have hmr : Sum.inr r ∈ st := List.mem_of_mem_drop (i := n) (by rw [hdr]; exact List.mem_cons_self)
  have hrs : ∀ w, w ∈ rest → dp_ok L kd w := fun w hw => hst w (List.mem_of_mem_drop (i := n) (by rw [hdr]; exact List.mem_cons_of_mem _ hw))
  obtain ⟨hrL, hrk⟩ : r.2 ∈ L ∧ kd r.2 = r.1 := hst (.inr r) hmr
  rw [hrt] at hrk
  obtain ⟨q0, hq0⟩ := va_pl_get (X := []) (f := dp_ce aC kd G) hrL
  rw [List.nil_append, dp_ce_obj hrk ht] at hq0
  have hsp : st.map dp_tv = ((st.take n).reverse.map dp_tv).reverse ++ .ref r.2 :: rest.map dp_tv := by
    have e := congrArg (List.map dp_tv) hsp0
    rw [List.map_append, List.map_reverse] at e
    exact e
  have hM := dp_met hpn (by rw [List.length_cons, hlen]; exact hml) (hY _ _ _ _ _ _ h) hw (dp_okc (hst (.inr r) hmr) (fun v hv => hst v (List.mem_of_mem_take (List.mem_reverse.mp hv))))
  have hx1 : dp_Q D L kd aC k' (fun x G' => Y k (pc + 3) ls (cond true rest (vI x :: rest)) G' Q) = va_Qv (fun G' : Mm => Y k (pc + 3) ls rest G' Q ∧ dp_WT L kd G') (fun G' t => dp_B D L kd aC G' t) (fun q => q ∈ L) := by unfold dp_Q; rw [hT]; rfl
  rw [hx1] at hM
  refine va_callv (va_runV (C := C) (As := (st.take n).reverse.map dp_tv) (rest := rest.map dp_tv) ⟨C_.1, C_.2.1, C_.2.2.2.1, C_.2.2.2.2.1, C_.2.2.2.2.2.1⟩ hM (cwV n C_.2.2.2.2.2.1 ?_ rfl rfl rfl ⟨hcc, hd0⟩ hR) ⟨dp_FB, va_recv C_.2.2.2.2.2.2.2.1 hP hcl hq0, fun U hU hW => ⟨rfl, by rw [hU]; exact hP, va_K.moved hW.alike C_.2.2.2.2.2.2.2.1, hD, dp_N_warm hW C_.2.2.2.2.2.2.2.2⟩⟩ rfl (by rw [List.length_map]; exact hlen) hlv.1 hsp (lv_room (by rw [dp_cat]; exact hle)) hd ⟨Nat.zero_le _, Nat.zero_le _⟩) hS (fun q _ h => h) (fun q h => h) (fun u t H1 locs1 ht hvm hw1 hB1 hz1 hk1 hS1 => ?_)
  · refine dp_wsIn ?_ (dp_mWc k' h5 rfl)
    intro w hw
    simp only [List.mem_cons, List.mem_nil_iff, or_false] at hw
    rcases hw with rfl | rfl | rfl | rfl
    · exact dp_good _ h1
    · exact dp_good _ h2
    · exact dp_good _ h3
    · rw [← hcc]; exact dp_good _ h4
  · obtain ⟨hP1, hK1, hD1, -⟩ := hB1
    rw [ht] at hP1
    exact hY _ _ _ _ _ _ hw1.1 hw1.2 hl hrs hls p e s m margs below meth c H1 locs1 lsM C_ hlv hP1 hD1 hS1
theorem ok_callVvN {k k' pc idx n t N mLl : Nat} {C : String} {T : u_T} {host : String} (hcl : vwCl[t]? = some (C, T, N)) (hcc : (mY k').cls = C) (ht : t < 9) (h1 : Cond.methodLinkNest (mY k).cls idx (mY k') host ∈ lw_nw) (h2 : Cond.instanceMethod (mY k') ∈ lw_tb2) (h3 : Cond.selects C (mY k') (mY k') ∈ lw_tb2) (h4 : Cond.initialized (mY k').cls ∈ lw_tb2) (h5 : Cond.code (mY k') (mB k') (mL k') (mT k') ∈ lw_tb2) (hpn : plainName (mY k').cls = true) (hml : n + 1 ≤ mL k') (hd0 : (mY k').cls ≠ "java/lang/invoke/MethodHandle" ∧ (mY k').cls ≠ "java/lang/invoke/VarHandle" ∧ (parseMethodDescriptor (mY k').desc).map (fun d => d.parameters.length) = some n) (hR : (rm k').frames + 1 ≤ (rm k).frames ∧ 8 + (mL k' + 11) + (rm k').locals ≤ (rm k).locals) (hT : mT k' = none) (hd : decode (mB k) pc = .ok (.invokevirtual idx, 3)) (hmm : mL k' = mLl := by rfl) : dp_OK k pc (o_callV k' mLl t n true) := by
  intro l D L kd aC Y hY ls st G Q h hw hl hst hls p e s m margs below meth c H locs lsM C_ hlv hP hD hS
  subst hmm
  unfold o_callV at h
  rcases hdr : st.drop n with _ | ⟨v0, rest⟩
  · rw [hdr] at h; exact False.elim h
  rw [hdr] at h
  rcases v0 with x0 | r
  · exact False.elim h
  obtain ⟨hbq, h⟩ := dp_cd h
  rw [Bool.and_eq_true] at hbq
  have hrt := Nat.eq_of_beq_eq_true hbq.1
  have hle := Nat.le_of_ble_eq_true hbq.2
  obtain ⟨hsp0, hlen⟩ := dp_drop_split hdr
  have hmr : Sum.inr r ∈ st := List.mem_of_mem_drop (i := n) (by rw [hdr]; exact List.mem_cons_self)
  have hrs : ∀ w, w ∈ rest → dp_ok L kd w := fun w hw => hst w (List.mem_of_mem_drop (i := n) (by rw [hdr]; exact List.mem_cons_of_mem _ hw))
  obtain ⟨hrL, hrk⟩ : r.2 ∈ L ∧ kd r.2 = r.1 := hst (.inr r) hmr
  rw [hrt] at hrk
  obtain ⟨q0, hq0⟩ := va_pl_get (X := []) (f := dp_ce aC kd G) hrL
  rw [List.nil_append, dp_ce_obj hrk ht] at hq0
  have hsp : st.map dp_tv = ((st.take n).reverse.map dp_tv).reverse ++ .ref r.2 :: rest.map dp_tv := by
    have e := congrArg (List.map dp_tv) hsp0
    rw [List.map_append, List.map_reverse] at e
    exact e
  have hM := dp_met hpn (by rw [List.length_cons, hlen]; exact hml) (hY _ _ _ _ _ _ h) hw (dp_okc (hst (.inr r) hmr) (fun v hv => hst v (List.mem_of_mem_take (List.mem_reverse.mp hv))))
  have hx1 : dp_Q D L kd aC k' (fun x G' => Y k (pc + 3) ls (cond true rest (vI x :: rest)) G' Q) = va_Qv (fun G' : Mm => Y k (pc + 3) ls rest G' Q ∧ dp_WT L kd G') (fun G' t => dp_B D L kd aC G' t) (fun q => q ∈ L) := by unfold dp_Q; rw [hT]; rfl
  rw [hx1] at hM
  refine va_callv (va_runVN (C := C) (As := (st.take n).reverse.map dp_tv) (rest := rest.map dp_tv) ⟨C_.1, C_.2.1, C_.2.2.2.1, C_.2.2.2.2.1, C_.2.2.2.2.2.1⟩ hM ⟨va_cnB n C_.2.2.2.2.2.1 (dp_mWc k' h5 rfl) rfl rfl rfl (C_.2.2.2.2.2.2.2.2 _ h1) (C_.2.2.2.2.2.1 _ h4) hd0 hR, C_.2.2.2.2.2.1 _ h2, C_.2.2.2.2.2.1 _ h3⟩ ⟨dp_FB, va_recv C_.2.2.2.2.2.2.2.1 hP hcl hq0, fun U hU hW => ⟨rfl, by rw [hU]; exact hP, va_K.moved hW.alike C_.2.2.2.2.2.2.2.1, hD, dp_N_warm hW C_.2.2.2.2.2.2.2.2⟩⟩ rfl (by rw [List.length_map]; exact hlen) hlv.1 hsp (lv_room (by rw [dp_cat]; exact hle)) hd ⟨Nat.zero_le _, Nat.zero_le _⟩) hS (fun q _ h => h) (fun q h => h) (fun u t H1 locs1 ht hvm hw1 hB1 hz1 hk1 hS1 => ?_)
  · obtain ⟨hP1, hK1, hD1, -⟩ := hB1
    rw [ht] at hP1
    exact hY _ _ _ _ _ _ hw1.1 hw1.2 hl hrs hls p e s m margs below meth c H1 locs1 lsM C_ hlv hP1 hD1 hS1
theorem ok_calli {k k' pc idx n mLl : Nat} (h1 : Cond.methodLink (mY k).cls idx (mY k') ∈ lw_tb2) (h2 : Cond.static (mY k') ∈ lw_tb2) (h4 : Cond.initialized (mY k').cls ∈ lw_tb2) (h5 : Cond.code (mY k') (mB k') (mL k') (mT k') ∈ lw_tb2) (hpn : plainName (mY k').cls = true) (hml : n ≤ mL k') (hd0 : (mY k').cls ≠ "java/lang/invoke/MethodHandle" ∧ (mY k').cls ≠ "java/lang/invoke/VarHandle" ∧ (parseMethodDescriptor (mY k').desc).map (fun d => d.parameters.length) = some n) (hR : (rm k').frames + 1 ≤ (rm k).frames ∧ 8 + (mL k' + 11) + (rm k').locals ≤ (rm k).locals) {ty : FieldType} (hT : mT k' = some ty) (hd : decode (mB k) pc = .ok (.invokestatic idx, 3)) (hmm : mL k' = mLl := by rfl) (hown : (mY k').cls = (mY k).cls := by rfl) : dp_OK k pc (o_call k' mLl n false) := by
  intro l D L kd aC Y hY ls st G Q h hw hl hst hls p e s m margs below meth c H locs lsM C hlv hP hD hS
  subst hmm
  obtain ⟨hbq, h⟩ := dp_cd h
  rw [Bool.and_eq_true] at hbq
  have hn := Nat.le_of_ble_eq_true hbq.1
  have hle := Nat.le_of_ble_eq_true hbq.2
  have hsp : st.map dp_tv = ((st.take n).reverse.map dp_tv).reverse ++ (st.drop n).map dp_tv := by rw [← List.map_reverse, List.reverse_reverse, ← List.map_append, List.take_append_drop]
  have hlen : (st.take n).reverse.length = n := by rw [List.length_reverse, List.length_take]; omega
  have hM := dp_met hpn (by rw [hlen]; exact hml) (hY _ _ _ _ _ _ h) hw (fun v hv => hst v (List.mem_of_mem_take (List.mem_reverse.mp hv)))
  have hx1 : dp_Q D L kd aC k' (fun x G' => Y k (pc + 3) ls (cond false (st.drop n) (vI x :: st.drop n)) G' Q) = va_Qi (fun (x : Int32) (G' : Mm) => Y k (pc + 3) ls (vI x :: st.drop n) G' Q ∧ dp_WT L kd G') (fun G' t => dp_B D L kd aC G' t) (fun q => q ∈ L) := by unfold dp_Q; rw [hT]; rfl
  rw [hx1] at hM
  refine va_calli (va_runS (As := (st.take n).reverse.map dp_tv) (rest := (st.drop n).map dp_tv) ⟨C.1, C.2.1, C.2.2.2.1, C.2.2.2.2.1, C.2.2.2.2.2.1⟩ hM (cwS n C.2.2.2.2.2.1 ?_ rfl rfl rfl ?_ hR) ⟨dp_FB, fun U hU hW => ⟨rfl, by rw [hU]; exact hP, va_K.moved hW.alike C.2.2.2.2.2.2.2.1, hD, dp_N_warm hW C.2.2.2.2.2.2.2.2⟩⟩ rfl (by rw [List.length_map]; exact hlen) hlv.1 hsp (lv_room (by rw [dp_cat]; exact hle)) hd ⟨Nat.zero_le _, Nat.zero_le _⟩) hS (fun q _ h => h) (fun q h => h) (fun x u t H1 locs1 ht hvm hw1 hB1 hz1 hk1 hS1 => ?_)
  · rw [← hown]
    refine dp_wsIn ?_ (dp_mWc k' h5 rfl)
    intro w hw
    simp only [List.mem_cons, List.mem_nil_iff, or_false] at hw
    rcases hw with rfl | rfl | rfl
    · rw [hown]; exact dp_good _ h1
    · exact dp_good _ h2
    · exact dp_good _ h4
  · exact ⟨hown, hd0⟩
  · obtain ⟨hP1, hK1, hD1, -⟩ := hB1
    rw [ht] at hP1
    exact hY _ _ _ _ _ _ hw1.1 hw1.2 hl (dp_okc trivial (fun w hw => hst w (List.mem_of_mem_drop hw))) hls p e s m margs below meth c H1 locs1 lsM C hlv hP1 hD1 hS1
theorem ok_callVi {k k' pc idx n t N mLl : Nat} {C : String} {T : u_T} (hcl : vwCl[t]? = some (C, T, N)) (hcc : (mY k').cls = C) (ht : t < 9) (h1 : Cond.methodLink (mY k).cls idx (mY k') ∈ lw_tb2) (h2 : Cond.instanceMethod (mY k') ∈ lw_tb2) (h3 : Cond.selects C (mY k') (mY k') ∈ lw_tb2) (h4 : Cond.initialized (mY k').cls ∈ lw_tb2) (h5 : Cond.code (mY k') (mB k') (mL k') (mT k') ∈ lw_tb2) (hpn : plainName (mY k').cls = true) (hml : n + 1 ≤ mL k') (hd0 : (mY k').cls ≠ "java/lang/invoke/MethodHandle" ∧ (mY k').cls ≠ "java/lang/invoke/VarHandle" ∧ (parseMethodDescriptor (mY k').desc).map (fun d => d.parameters.length) = some n) (hR : (rm k').frames + 1 ≤ (rm k).frames ∧ 8 + (mL k' + 11) + (rm k').locals ≤ (rm k).locals) {ty : FieldType} (hT : mT k' = some ty) (hd : decode (mB k) pc = .ok (.invokevirtual idx, 3)) (hmm : mL k' = mLl := by rfl) : dp_OK k pc (o_callV k' mLl t n false) := by
  intro l D L kd aC Y hY ls st G Q h hw hl hst hls p e s m margs below meth c H locs lsM C_ hlv hP hD hS
  subst hmm
  unfold o_callV at h
  rcases hdr : st.drop n with _ | ⟨v0, rest⟩
  · rw [hdr] at h; exact False.elim h
  rw [hdr] at h
  rcases v0 with x0 | r
  · exact False.elim h
  obtain ⟨hbq, h⟩ := dp_cd h
  rw [Bool.and_eq_true] at hbq
  have hrt := Nat.eq_of_beq_eq_true hbq.1
  have hle := Nat.le_of_ble_eq_true hbq.2
  obtain ⟨hsp0, hlen⟩ := dp_drop_split hdr
  have hmr : Sum.inr r ∈ st := List.mem_of_mem_drop (i := n) (by rw [hdr]; exact List.mem_cons_self)
  have hrs : ∀ w, w ∈ rest → dp_ok L kd w := fun w hw => hst w (List.mem_of_mem_drop (i := n) (by rw [hdr]; exact List.mem_cons_of_mem _ hw))
  obtain ⟨hrL, hrk⟩ : r.2 ∈ L ∧ kd r.2 = r.1 := hst (.inr r) hmr
  rw [hrt] at hrk
  obtain ⟨q0, hq0⟩ := va_pl_get (X := []) (f := dp_ce aC kd G) hrL
  rw [List.nil_append, dp_ce_obj hrk ht] at hq0
  have hsp : st.map dp_tv = ((st.take n).reverse.map dp_tv).reverse ++ .ref r.2 :: rest.map dp_tv := by
    have e := congrArg (List.map dp_tv) hsp0
    rw [List.map_append, List.map_reverse] at e
    exact e
  have hM := dp_met hpn (by rw [List.length_cons, hlen]; exact hml) (hY _ _ _ _ _ _ h) hw (dp_okc (hst (.inr r) hmr) (fun v hv => hst v (List.mem_of_mem_take (List.mem_reverse.mp hv))))
  have hx1 : dp_Q D L kd aC k' (fun x G' => Y k (pc + 3) ls (cond false rest (vI x :: rest)) G' Q) = va_Qi (fun (x : Int32) (G' : Mm) => Y k (pc + 3) ls (vI x :: rest) G' Q ∧ dp_WT L kd G') (fun G' t => dp_B D L kd aC G' t) (fun q => q ∈ L) := by unfold dp_Q; rw [hT]; rfl
  rw [hx1] at hM
  refine va_calli (va_runV (C := C) (As := (st.take n).reverse.map dp_tv) (rest := rest.map dp_tv) ⟨C_.1, C_.2.1, C_.2.2.2.1, C_.2.2.2.2.1, C_.2.2.2.2.2.1⟩ hM (cwV n C_.2.2.2.2.2.1 ?_ rfl rfl rfl ⟨hcc, hd0⟩ hR) ⟨dp_FB, va_recv C_.2.2.2.2.2.2.2.1 hP hcl hq0, fun U hU hW => ⟨rfl, by rw [hU]; exact hP, va_K.moved hW.alike C_.2.2.2.2.2.2.2.1, hD, dp_N_warm hW C_.2.2.2.2.2.2.2.2⟩⟩ rfl (by rw [List.length_map]; exact hlen) hlv.1 hsp (lv_room (by rw [dp_cat]; exact hle)) hd ⟨Nat.zero_le _, Nat.zero_le _⟩) hS (fun q _ h => h) (fun q h => h) (fun x u t H1 locs1 ht hvm hw1 hB1 hz1 hk1 hS1 => ?_)
  · refine dp_wsIn ?_ (dp_mWc k' h5 rfl)
    intro w hw
    simp only [List.mem_cons, List.mem_nil_iff, or_false] at hw
    rcases hw with rfl | rfl | rfl | rfl
    · exact dp_good _ h1
    · exact dp_good _ h2
    · exact dp_good _ h3
    · rw [← hcc]; exact dp_good _ h4
  · obtain ⟨hP1, hK1, hD1, -⟩ := hB1
    rw [ht] at hP1
    exact hY _ _ _ _ _ _ hw1.1 hw1.2 hl (dp_okc trivial hrs) hls p e s m margs below meth c H1 locs1 lsM C_ hlv hP1 hD1 hS1
theorem ok_callViN {k k' pc idx n t N mLl : Nat} {C : String} {T : u_T} {host : String} (hcl : vwCl[t]? = some (C, T, N)) (hcc : (mY k').cls = C) (ht : t < 9) (h1 : Cond.methodLinkNest (mY k).cls idx (mY k') host ∈ lw_nw) (h2 : Cond.instanceMethod (mY k') ∈ lw_tb2) (h3 : Cond.selects C (mY k') (mY k') ∈ lw_tb2) (h4 : Cond.initialized (mY k').cls ∈ lw_tb2) (h5 : Cond.code (mY k') (mB k') (mL k') (mT k') ∈ lw_tb2) (hpn : plainName (mY k').cls = true) (hml : n + 1 ≤ mL k') (hd0 : (mY k').cls ≠ "java/lang/invoke/MethodHandle" ∧ (mY k').cls ≠ "java/lang/invoke/VarHandle" ∧ (parseMethodDescriptor (mY k').desc).map (fun d => d.parameters.length) = some n) (hR : (rm k').frames + 1 ≤ (rm k).frames ∧ 8 + (mL k' + 11) + (rm k').locals ≤ (rm k).locals) {ty : FieldType} (hT : mT k' = some ty) (hd : decode (mB k) pc = .ok (.invokevirtual idx, 3)) (hmm : mL k' = mLl := by rfl) : dp_OK k pc (o_callV k' mLl t n false) := by
  intro l D L kd aC Y hY ls st G Q h hw hl hst hls p e s m margs below meth c H locs lsM C_ hlv hP hD hS
  subst hmm
  unfold o_callV at h
  rcases hdr : st.drop n with _ | ⟨v0, rest⟩
  · rw [hdr] at h; exact False.elim h
  rw [hdr] at h
  rcases v0 with x0 | r
  · exact False.elim h
  obtain ⟨hbq, h⟩ := dp_cd h
  rw [Bool.and_eq_true] at hbq
  have hrt := Nat.eq_of_beq_eq_true hbq.1
  have hle := Nat.le_of_ble_eq_true hbq.2
  obtain ⟨hsp0, hlen⟩ := dp_drop_split hdr
  have hmr : Sum.inr r ∈ st := List.mem_of_mem_drop (i := n) (by rw [hdr]; exact List.mem_cons_self)
  have hrs : ∀ w, w ∈ rest → dp_ok L kd w := fun w hw => hst w (List.mem_of_mem_drop (i := n) (by rw [hdr]; exact List.mem_cons_of_mem _ hw))
  obtain ⟨hrL, hrk⟩ : r.2 ∈ L ∧ kd r.2 = r.1 := hst (.inr r) hmr
  rw [hrt] at hrk
  obtain ⟨q0, hq0⟩ := va_pl_get (X := []) (f := dp_ce aC kd G) hrL
  rw [List.nil_append, dp_ce_obj hrk ht] at hq0
  have hsp : st.map dp_tv = ((st.take n).reverse.map dp_tv).reverse ++ .ref r.2 :: rest.map dp_tv := by
    have e := congrArg (List.map dp_tv) hsp0
    rw [List.map_append, List.map_reverse] at e
    exact e
  have hM := dp_met hpn (by rw [List.length_cons, hlen]; exact hml) (hY _ _ _ _ _ _ h) hw (dp_okc (hst (.inr r) hmr) (fun v hv => hst v (List.mem_of_mem_take (List.mem_reverse.mp hv))))
  have hx1 : dp_Q D L kd aC k' (fun x G' => Y k (pc + 3) ls (cond false rest (vI x :: rest)) G' Q) = va_Qi (fun (x : Int32) (G' : Mm) => Y k (pc + 3) ls (vI x :: rest) G' Q ∧ dp_WT L kd G') (fun G' t => dp_B D L kd aC G' t) (fun q => q ∈ L) := by unfold dp_Q; rw [hT]; rfl
  rw [hx1] at hM
  refine va_calli (va_runVN (C := C) (As := (st.take n).reverse.map dp_tv) (rest := rest.map dp_tv) ⟨C_.1, C_.2.1, C_.2.2.2.1, C_.2.2.2.2.1, C_.2.2.2.2.2.1⟩ hM ⟨va_cnB n C_.2.2.2.2.2.1 (dp_mWc k' h5 rfl) rfl rfl rfl (C_.2.2.2.2.2.2.2.2 _ h1) (C_.2.2.2.2.2.1 _ h4) hd0 hR, C_.2.2.2.2.2.1 _ h2, C_.2.2.2.2.2.1 _ h3⟩ ⟨dp_FB, va_recv C_.2.2.2.2.2.2.2.1 hP hcl hq0, fun U hU hW => ⟨rfl, by rw [hU]; exact hP, va_K.moved hW.alike C_.2.2.2.2.2.2.2.1, hD, dp_N_warm hW C_.2.2.2.2.2.2.2.2⟩⟩ rfl (by rw [List.length_map]; exact hlen) hlv.1 hsp (lv_room (by rw [dp_cat]; exact hle)) hd ⟨Nat.zero_le _, Nat.zero_le _⟩) hS (fun q _ h => h) (fun q h => h) (fun x u t H1 locs1 ht hvm hw1 hB1 hz1 hk1 hS1 => ?_)
  · obtain ⟨hP1, hK1, hD1, -⟩ := hB1
    rw [ht] at hP1
    exact hY _ _ _ _ _ _ hw1.1 hw1.2 hl (dp_okc trivial hrs) hls p e s m margs below meth c H1 locs1 lsM C_ hlv hP1 hD1 hS1
