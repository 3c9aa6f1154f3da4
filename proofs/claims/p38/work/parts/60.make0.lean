/-! the constructors: the cells that a new object has, in their order -/
def Zi (k j : Nat) : Int32 := bif Nat.beq k 0 then (bif Nat.beq j 9 then nI 2 else 0) else bif Nat.beq k 61 then (bif Nat.beq j 1 then nI 2 else bif Nat.beq j 2 then nI 1 else 0) else bif Nat.beq k 306 then (bif Nat.beq j 11 then (-1 : Int32) else bif Nat.beq j 15 then nI 2 else bif Nat.beq j 16 then nI 1 else bif Nat.beq j 38 then (-1 : Int32) else 0) else bif isO k 4 then (bif Nat.beq j 0 then (-1 : Int32) else 0) else 0
/-- the table of choices -/
def tCh (r q : Nat) : Int64 := rp (chL r) q
def Zl (k j : Nat) : Int64 := bif (Nat.ble 3 k && Nat.ble k 38) then (if j < 7 then tCh (k - 3) j else 0) else 0
def μz : Mm := (Zi, Zl)
theorem Zl_0 {k : Nat} (h : 38 < k) : μz.2 k = fun _ => (0 : Int64) := by
  funext j
  show (bif (Nat.ble 3 k && Nat.ble k 38) then _ else _) = _
  rw [show Nat.ble k 38 = false by rw [← Bool.not_eq_true, Nat.ble_eq]; omega, Bool.and_false]
  rfl
def nestL : List (String × Nat × MethodName) := [("TypesInside", 11, ⟨"TypesInside$Counts", "<init>", "()V"⟩), ("TypesInside", 20, ⟨"TypesInside$Group", "<init>", "()V"⟩), ("TypesInside", 27, ⟨"TypesInside$Sums", "<init>", "()V"⟩), ("TypesInside$Sums", 37, ⟨"TypesInside$Mix", "<init>", "()V"⟩), ("TypesInside", 34, ⟨"TypesInside$Mix", "<init>", "()V"⟩), ("TypesInside", 76, ⟨"TypesInside$Shelf", "<init>", "()V"⟩)]
def N6 (U : State) : Prop := ∀ q, q ∈ nestL → va_Nw (.methodLinkNest q.1 q.2.1 q.2.2 "TypesInside") U
theorem N6_0 {U : State} (h : N6 U) : va_Nw (.methodLinkNest "TypesInside" 11 ⟨"TypesInside$Counts", "<init>", "()V"⟩ "TypesInside") U := h ("TypesInside", 11, ⟨"TypesInside$Counts", "<init>", "()V"⟩) (List.mem_of_getElem? (i := 0) rfl)
theorem N6_1 {U : State} (h : N6 U) : va_Nw (.methodLinkNest "TypesInside" 20 ⟨"TypesInside$Group", "<init>", "()V"⟩ "TypesInside") U := h ("TypesInside", 20, ⟨"TypesInside$Group", "<init>", "()V"⟩) (List.mem_of_getElem? (i := 1) rfl)
theorem N6_2 {U : State} (h : N6 U) : va_Nw (.methodLinkNest "TypesInside" 27 ⟨"TypesInside$Sums", "<init>", "()V"⟩ "TypesInside") U := h ("TypesInside", 27, ⟨"TypesInside$Sums", "<init>", "()V"⟩) (List.mem_of_getElem? (i := 2) rfl)
theorem N6_3 {U : State} (h : N6 U) : va_Nw (.methodLinkNest "TypesInside$Sums" 37 ⟨"TypesInside$Mix", "<init>", "()V"⟩ "TypesInside") U := h ("TypesInside$Sums", 37, ⟨"TypesInside$Mix", "<init>", "()V"⟩) (List.mem_of_getElem? (i := 3) rfl)
theorem N6_4 {U : State} (h : N6 U) : va_Nw (.methodLinkNest "TypesInside" 34 ⟨"TypesInside$Mix", "<init>", "()V"⟩ "TypesInside") U := h ("TypesInside", 34, ⟨"TypesInside$Mix", "<init>", "()V"⟩) (List.mem_of_getElem? (i := 4) rfl)
theorem N6_5 {U : State} (h : N6 U) : va_Nw (.methodLinkNest "TypesInside" 76 ⟨"TypesInside$Shelf", "<init>", "()V"⟩ "TypesInside") U := h ("TypesInside", 76, ⟨"TypesInside$Shelf", "<init>", "()V"⟩) (List.mem_of_getElem? (i := 5) rfl)
/-- what the makers stand on: the classes, arrays of arrays, private constructors -/
def K6 (D : va_G) (AC : Nat → ClassId) (U : State) : Prop := va_K D cl (tyL AC) U ∧ (Jvm.Cond.arrayOver (.array .long)).before #[] U = true ∧ va_AO "TypesInside$Mix" U ∧ va_AO "TypesInside$Shelf" U ∧ N6 U
theorem K6.warm {D : va_G} {AC : Nat → ClassId} {u U : State} (hW : u.WarmedH U.vm) (h : K6 D AC u) : K6 D AC U := ⟨h.1.moved hW.alike, over_moved hW.alike h.2.1, h.2.2.1.moved hW.alike, h.2.2.2.1.moved hW.alike, fun q hq => va_Nw.warmM hW (h.2.2.2.2 q hq)⟩
theorem K6.same {D : va_G} {AC : Nat → ClassId} {u U : State} (e : u.vm = U.vm) (h : K6 D AC u) : K6 D AC U := ⟨h.1.moved (by rw [e]; exact Vm.Alike.refl U.vm), over_moved (by rw [e]; exact Vm.Alike.refl U.vm) h.2.1, h.2.2.1.moved (by rw [e]; exact Vm.Alike.refl U.vm), h.2.2.2.1.moved (by rw [e]; exact Vm.Alike.refl U.vm), fun q hq => va_Nw.same rfl e (h.2.2.2.2 q hq)⟩
theorem RA_u {U : State} {a b : ClassId} {ty : FieldType} (h1 : va_RA U a ty) (h2 : va_RA U b ty) : a = b := by
  cases ty with
  | object C =>
    obtain ⟨_, _, _, _, _, x⟩ := h1
    obtain ⟨_, _, _, _, _, y⟩ := h2
    exact Option.some.inj (x.symm.trans y)
  | _ => exact Option.some.inj (Eq.trans (Eq.symm h1) h2)
theorem K_new {D : va_G} {AC : Nat → ClassId} {s : State} {cA : ClassId} {ty : FieldType} (i : Nat) (h : va_K D cl (tyL AC ++ [(cA, ty)]) s) (hi : (tyL AC ++ [(cA, ty)])[i]? = some (AC i, ty)) : cA = AC i := RA_u ((h.2 6 _ rfl).2) ((h.2 i _ hi).2)
def rng (b n : Nat) : List Nat := (List.range n).map fun i => b + i
theorem rng_app (b n m : Nat) : rng b n ++ rng (b + n) m = rng b (n + m) := by
  unfold rng
  rw [List.range_add, List.map_append, List.map_map]
  congr 1
  apply List.map_congr_left
  intro i _
  show b + n + i = b + (n + i)
  omega
theorem rng_1 (b : Nat) : rng b 1 = [b] := rfl
theorem rng_s (b n : Nat) : rng b (n + 1) = b :: rng (b + 1) n := by
  rw [show n + 1 = 1 + n by omega, ← rng_app b 1 n]
  rfl
theorem rng_mem {b n k : Nat} : k ∈ rng b n ↔ b ≤ k ∧ k < b + n := by
  unfold rng
  rw [List.mem_map]
  constructor
  · rintro ⟨i, hi, rfl⟩
    have := List.mem_range.mp hi
    omega
  · rintro ⟨h1, h2⟩
    exact ⟨k - b, List.mem_range.mpr (by omega), by omega⟩
section MK0
variable {D : va_G} {AC : Nat → ClassId} {ad ad1 : Nat → Nat} {H : Heap} {A : Nat → Prop}
theorem P_in {ws : va_W} (h : va_P D cl ws H) {x : Nat × va_E} (hx : x ∈ ws) : va_at D cl x H := by
  obtain ⟨k, hk⟩ := List.getElem?_of_mem hx
  exact h k x hk
theorem P_of {ws : va_W} (h : ∀ x, x ∈ ws → va_at D cl x H) : va_P D cl ws H := fun k x hk => h x (List.mem_of_getElem? hk)
theorem P_l {a b : va_W} (h : va_P D cl (a ++ b) H) : va_P D cl a H := P_of fun x hx => P_in h (List.mem_append_left _ hx)
theorem P_r {a b : va_W} (h : va_P D cl (a ++ b) H) : va_P D cl b H := P_of fun x hx => P_in h (List.mem_append_right _ hx)
theorem P_tl {x : Nat × va_E} {b : va_W} (h : va_P D cl (x :: b) H) : va_P D cl b H := P_of fun y hy => P_in h (List.mem_cons_of_mem _ hy)
theorem P_hd {x : Nat × va_E} {b : va_W} (h : va_P D cl (x :: b) H) : va_at D cl x H := P_in h List.mem_cons_self
theorem P_cons {x : Nat × va_E} {b : va_W} (h1 : va_at D cl x H) (h : va_P D cl b H) : va_P D cl (x :: b) H := P_of fun y hy => by
  rcases List.mem_cons.mp hy with rfl | hy
  · exact h1
  · exact P_in h hy
theorem P_app {a b : va_W} (h1 : va_P D cl a H) (h2 : va_P D cl b H) : va_P D cl (a ++ b) H := P_of fun x hx => (List.mem_append.mp hx).elim (P_in h1) (P_in h2)
theorem D_fst {ws ws' : va_W} (h : va_D A ws) (e : ws.map (fun x => x.1) = ws'.map (fun x => x.1)) : va_D A ws' := by
  have key : ∀ (k : Nat) (q : Nat × va_E), ws'[k]? = some q → ∃ p, ws[k]? = some p ∧ p.1 = q.1 := fun k q hq => by
    have h1 : (ws'.map (fun x => x.1))[k]? = some q.1 := by rw [List.getElem?_map, hq]; rfl
    rw [← e, List.getElem?_map] at h1
    cases hp : ws[k]? with
    | none => rw [hp] at h1; cases h1
    | some p => rw [hp] at h1; exact ⟨p, rfl, Option.some.inj h1⟩
  refine ⟨fun i j p q hi hj hpq => ?_, fun k q hk => ?_⟩
  · obtain ⟨p', a1, a2⟩ := key i p hi
    obtain ⟨q', b1, b2⟩ := key j q hj
    exact h.1 i j p' q' a1 b1 (a2.trans (hpq.trans b2.symm))
  · obtain ⟨p', a1, a2⟩ := key k q hk
    rw [← a2]
    exact h.2 k p' a1
theorem wl_app (a b : List Nat) (μ : Mm) : wl (a ++ b) AC ad μ = wl a AC ad μ ++ wl b AC ad μ := List.map_append
theorem wl_fst (ks : List Nat) (μ : Mm) : (wl ks AC ad μ).map (fun x => x.1) = ks.map ad := by
  unfold wl
  rw [List.map_map]
  rfl
/-- the references of a cell lie in a stretch of cells -/
def cloK (b n k : Nat) : Bool := bif Nat.ble (shK k) 2 then true else bif Nat.ble (shK k) 9 then (List.range (shN k)).all (fun j => Nat.ble b (sub k j) && Nat.blt (sub k j) (b + n)) else (List.range (cN (shK k - 10))).all fun j => !isR (shK k - 10) j || (Nat.ble b (sub k j) && Nat.blt (sub k j) (b + n))
def clo (b n : Nat) : Bool := (List.range n).all fun i => Nat.blt (b + i) NN && cloK b n (b + i)
theorem at_q {a n : Nat} {c : ClassId} {f g : Nat → Option Nat} (h : ∀ j, j < n → f j = g j) (hP : va_at D cl (a, .inl (c, n, .inr (.inr (.inr (.inr f))))) H) : va_at D cl (a, .inl (c, n, .inr (.inr (.inr (.inr g))))) H := by
  have e : vp_cell c (n, .inr (.inr (.inr (.inr f)))) = vp_cell c (n, .inr (.inr (.inr (.inr g)))) := by
    rw [vp_cell_q, vp_cell_q]
    unfold arrV
    congr 1
    apply congrArg
    funext j
    show va_rf (f j.val) = va_rf (g j.val)
    rw [h j.val j.isLt]
  show H[a]? = some (vp_cell c _)
  rw [← e]
  exact hP
theorem cE_mv {k : Nat} {μ : Mm} {b n : Nat} (hk : k < NN) (hc : cloK b n k = true) (he : ∀ i, b ≤ i → i < b + n → ad i = ad1 i) {a : Nat} (hP : va_at D cl (a, cE AC ad1 μ k) H) : va_at D cl (a, cE AC ad μ k) H := by
  unfold cloK at hc
  by_cases h2 : shK k ≤ 2
  · have e : cE AC ad1 μ k = cE AC ad μ k := by
      rcases (show shK k = 0 ∨ shK k = 1 ∨ shK k = 2 by omega) with e | e | e
      · rw [cE_i e, cE_i e]
      · rw [cE_l e, cE_l e]
      · rw [cE_z e, cE_z e]
    rw [← e]
    exact hP
  · rw [show Nat.ble (shK k) 2 = false by rw [← Bool.not_eq_true, Nat.ble_eq]; exact h2, cond_false] at hc
    by_cases h9 : shK k ≤ 9
    · rw [show Nat.ble (shK k) 9 = true by rw [Nat.ble_eq]; exact h9, cond_true] at hc
      rw [cE_q rfl (by omega) (by omega)] at hP ⊢
      refine at_q (fun j hj => ?_) hP
      have h := List.all_eq_true.mp hc j (List.mem_range.mpr hj)
      obtain ⟨x, y⟩ := Bool.and_eq_true_iff.mp h
      rw [he _ (Nat.le_of_ble_eq_true x) (Nat.le_of_ble_eq_true y)]
    · rw [show Nat.ble (shK k) 9 = false by rw [← Bool.not_eq_true, Nat.ble_eq]; exact h9, cond_false] at hc
      have ek : shK k = 10 + (shK k - 10) := by omega
      have e : cE AC ad1 μ k = cE AC ad μ k := by
        rw [cE_o ek, cE_o ek]
        have : fl ad1 (shK k - 10) k (cN (shK k - 10)) (μ.1 k) = fl ad (shK k - 10) k (cN (shK k - 10)) (μ.1 k) := by
          unfold fl
          apply List.map_congr_left
          intro j hj
          have h := List.all_eq_true.mp hc j hj
          cases hr : isR (shK k - 10) j with
          | false => rfl
          | true =>
            rw [hr] at h
            obtain ⟨x, y⟩ := Bool.and_eq_true_iff.mp h
            show Value.ref _ = Value.ref _
            rw [he _ (Nat.le_of_ble_eq_true x) (Nat.le_of_ble_eq_true y)]
        rw [this]
      rw [← e]
      exact hP
/-- a stretch of cells, closed in itself, by another table of addresses -/
theorem wl_mv {b n : Nat} {μ : Mm} (hc : clo b n = true) (he : ∀ i, b ≤ i → i < b + n → ad i = ad1 i) (hP : va_P D cl (wl (rng b n) AC ad1 μ) H) : va_P D cl (wl (rng b n) AC ad μ) H := P_of fun x hx => by
  obtain ⟨k, hk, rfl⟩ := List.mem_map.mp hx
  obtain ⟨k1, k2⟩ := rng_mem.mp hk
  have h := List.all_eq_true.mp hc (k - b) (List.mem_range.mpr (by omega))
  rw [show b + (k - b) = k by omega] at h
  obtain ⟨x, y⟩ := Bool.and_eq_true_iff.mp h
  rw [he k k1 k2]
  exact cE_mv (Nat.le_of_ble_eq_true x) y he (P_in hP (List.mem_map.mpr ⟨k, hk, rfl⟩))
theorem wl_mf {b n : Nat} {μ : Mm} (he : ∀ i, b ≤ i → i < b + n → ad i = ad1 i) : (wl (rng b n) AC ad1 μ).map (fun x => x.1) = (wl (rng b n) AC ad μ).map (fun x => x.1) := by
  rw [wl_fst, wl_fst]
  apply List.map_congr_left
  intro k hk
  obtain ⟨k1, k2⟩ := rng_mem.mp hk
  exact (he k k1 k2).symm
end MK0
/-- rows that a new array of arrays has -/
theorem mna_list {X : va_W} {x : Nat × va_E} {n : Nat} {r : Nat → Nat} {f : Nat → va_E} {e : va_E} : (X ++ [x]) ++ va_pl ([] ++ (List.range n).map r) (vr_up f ((List.range n).map r) e) = X ++ (x :: (List.range n).map fun i => (r i, e)) := by
  rw [List.append_assoc]
  congr 1
  show x :: va_pl ((List.range n).map r) _ = _
  congr 1
  unfold va_pl
  rw [List.map_map]
  apply List.map_congr_left
  intro i hi
  show (r i, vr_up f _ e (r i)) = _
  rw [vr_up_in (List.mem_map_of_mem hi)]
