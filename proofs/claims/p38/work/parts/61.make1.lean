section MK1
variable {D : va_G} {AC : Nat → ClassId} {H H1 H0 : Heap} {A0 : Nat → Prop} {X wc w1 : va_W} {locs : List Loc}
theorem ix_l : (List.range X.length).map (fun i => (X ++ wc)[i]?) = X.map some := by
  apply List.ext_getElem?
  intro i
  rw [List.getElem?_map, List.getElem?_map]
  by_cases h : i < X.length
  · rw [List.getElem?_range h, List.getElem?_eq_getElem h]
    show some ((X ++ wc)[i]?) = _
    rw [List.getElem?_append_left h, List.getElem?_eq_getElem h]
    rfl
  · rw [List.getElem?_eq_none (by rw [List.length_range]; omega), List.getElem?_eq_none (show X.length ≤ i by omega)]
    rfl
theorem ix_r : ((List.range wc.length).map fun i => X.length + i).map (fun i => (X ++ wc)[i]?) = wc.map some := by
  rw [List.map_map]
  apply List.ext_getElem?
  intro i
  rw [List.getElem?_map, List.getElem?_map]
  by_cases h : i < wc.length
  · rw [List.getElem?_range h, List.getElem?_eq_getElem h]
    show some ((X ++ wc)[X.length + i]?) = _
    rw [List.getElem?_append_right (by omega), Nat.add_sub_cancel_left, List.getElem?_eq_getElem h]
    rfl
  · rw [List.getElem?_eq_none (by rw [List.length_range]; omega), List.getElem?_eq_none (show wc.length ≤ i by omega)]
    rfl
theorem D_r {A : Nat → Prop} (h : va_D A (X ++ wc)) : va_D A wc := by
  refine ⟨fun i j p q hi hj e => ?_, fun k q hk => h.2 (X.length + k) q (by rw [List.getElem?_append_right (by omega), Nat.add_sub_cancel_left]; exact hk)⟩
  have := h.1 (X.length + i) (X.length + j) p q (by rw [List.getElem?_append_right (by omega), Nat.add_sub_cancel_left]; exact hi) (by rw [List.getElem?_append_right (by omega), Nat.add_sub_cancel_left]; exact hj) e
  omega
theorem free2 (hD : va_D A0 (X ++ wc)) (hS : va_S A0 H0 H locs) (hA : ∀ q, H0.size ≤ q → A0 q) : ∀ q, va_A wc H.size q → A0 q := va_free hD hS hA _ ix_r
theorem va_nd_range : ∀ n, va_nd (List.range n) = true := by
  intro n
  have key : ∀ l : List Nat, l.Nodup → va_nd l = true := by
    intro l h
    induction l with
    | nil => rfl
    | cons a l ih =>
      obtain ⟨h1, h2⟩ := List.nodup_cons.mp h
      simp [va_nd, ih h2, h1]
  exact key _ List.nodup_range
theorem join2 (hP : va_P D cl (X ++ wc) H) (hD : va_D A0 (X ++ wc)) (hk : ∀ q : Nat, q < H.size → ¬ va_A wc H.size q → H1[q]? = H[q]?) (hF : ∀ q, va_A wc H.size q → A0 q) (hP1 : va_P D cl w1 H1) (hD1 : va_D (va_A wc H.size) w1) : va_P D cl (X ++ w1) H1 ∧ va_D A0 (X ++ w1) :=
  va_join hP hD _ _ ix_r ix_l (va_nd_range _) (fun i hi hj => by
    have := List.mem_range.mp hi
    obtain ⟨j, -, rfl⟩ := List.mem_map.mp hj
    omega) hk hF hP1 hD1
end MK1
section MK2
variable {D : va_G} {AC : Nat → ClassId} {ad ad1 : Nat → Nat} {H : Heap} {A : Nat → Prop}
theorem m_step {T T' pc : va_W} {b n0 n : Nat} (hm : T.map (fun x => x.1) = (rng b n0).map ad) (e : T' = T ++ pc) (hp : pc.map (fun x => x.1) = (rng (b + n0) n).map ad) : T'.map (fun x => x.1) = (rng b (n0 + n)).map ad := by
  rw [e, List.map_append, hm, hp, ← List.map_append, rng_app]
theorem P_step {b n0 n : Nat} {μ : Mm} (h1 : va_P D cl (wl (rng b n0) AC ad μ) H) (h2 : va_P D cl (wl (rng (b + n0) n) AC ad μ) H) : va_P D cl (wl (rng b (n0 + n)) AC ad μ) H := by
  rw [← rng_app, wl_app]
  exact P_app h1 h2
theorem P_0 {b : Nat} {μ : Mm} : va_P D cl (wl (rng b 0) AC ad μ) H := P_of fun x hx => by cases hx
theorem one_P {a q : Nat} {e : va_E} {μ : Mm} (hg : ad a = q) (he : cE AC ad μ a = e) (h : va_P D cl [(q, e)] H) : va_P D cl (wl (rng a 1) AC ad μ) H := by
  subst hg
  subst he
  exact h
theorem one_m {a q : Nat} {e : va_E} (hg : ad a = q) : ([(q, e)] : va_W).map (fun x => x.1) = (rng a 1).map ad := by
  subst hg
  rfl
theorem blk_m {a n : Nat} {μ : Mm} (he : ∀ i, a ≤ i → i < a + n → ad i = ad1 i) : (wl (rng a n) AC ad1 μ).map (fun x => x.1) = (rng a n).map ad := (wl_mf he).trans (wl_fst _ _)
theorem mna_P {a q n k : Nat} {r : Nat → Nat} {μ : Mm} (hg : ad a = q) (hr : ∀ i, i < n → ad (a + 1 + i) = r i) (h3 : shK a = 3) (hN : shN a = n) (hs : ∀ j, j < n → sub a j = a + 1 + j) (h1 : ∀ i, i < n → shK (a + 1 + i) = 1 ∧ shN (a + 1 + i) = k) (hμ : ∀ i, i < n → μ.2 (a + 1 + i) = fun _ => (0 : Int64))
    (h : va_P D cl ((q, .inl (AC 3, n, .inr (.inr (.inr (.inr (fun i => if i < n then some (r i) else none)))))) :: (List.range n).map fun i => (r i, .inl (AC 1, k, .inr (.inl (fun _ => (0 : Int64)))))) H) : va_P D cl (wl (rng a (n + 1)) AC ad μ) H := by
  rw [rng_s]
  refine P_cons ?_ (P_of fun y hy => ?_)
  · show va_at D cl (ad a, cE AC ad μ a) H
    rw [hg, cE_q h3 (by omega) (by omega), hN]
    exact at_q (fun j hj => by rw [if_pos hj, hs j hj, hr j hj]) (P_hd h)
  · obtain ⟨x, hx, rfl⟩ := List.mem_map.mp hy
    obtain ⟨i, hi, rfl⟩ := List.mem_map.mp hx
    have hi := List.mem_range.mp hi
    show va_at D cl (ad (a + 1 + i), cE AC ad μ (a + 1 + i)) H
    rw [hr i hi, cE_l (h1 i hi).1, (h1 i hi).2, hμ i hi]
    exact P_in (P_tl h) (List.mem_map.mpr ⟨i, List.mem_range.mpr hi, rfl⟩)
theorem mna_m {a q n : Nat} {r : Nat → Nat} {e : va_E} {f : Nat → va_E} (hg : ad a = q) (hr : ∀ i, i < n → ad (a + 1 + i) = r i) : ((q, e) :: (List.range n).map fun i => (r i, f i) : va_W).map (fun x => x.1) = (rng a (n + 1)).map ad := by
  rw [rng_s]
  show q :: ((List.range n).map fun i => (r i, f i)).map (fun x => x.1) = ad a :: (rng (a + 1) n).map ad
  rw [hg]
  congr 1
  unfold rng
  rw [List.map_map, List.map_map]
  exact List.map_congr_left (fun i hi => (hr i (List.mem_range.mp hi)).symm)
theorem head_P {b c : Nat} {fs : List Value} {n : Nat} {μ : Mm} (hb : shK b = 10 + c) (hf : fl ad c b (cN c) (μ.1 b) = fs) {h0 : Nat} (had : ad b = h0) {T : va_W} (h : va_P D cl ((h0, .inr (c, fs)) :: T) H) (hT : va_P D cl (wl (rng (b + 1) n) AC ad μ) H) : va_P D cl (wl (rng b (n + 1)) AC ad μ) H := by
  rw [rng_s]
  refine P_cons ?_ hT
  show va_at D cl (ad b, cE AC ad μ b) H
  rw [had, cE_o hb, hf]
  exact P_hd h
theorem head_D {b n : Nat} {e : va_E} {μ : Mm} {h0 : Nat} (had : ad b = h0) {T : va_W} (h : va_D A ((h0, e) :: T)) (hT : T.map (fun x => x.1) = (rng (b + 1) n).map ad) : va_D A (wl (rng b (n + 1)) AC ad μ) := by
  refine D_fst h ?_
  rw [wl_fst, rng_s]
  show h0 :: T.map (fun x => x.1) = ad b :: (rng (b + 1) n).map ad
  rw [had, hT]
end MK2
section MK3
variable {D : va_G} {AC : Nat → ClassId} {ad : Nat → Nat} {H : Heap} {A : Nat → Prop}
theorem blk_in {b n c q : Nat} {μ : Mm} (hn : 0 < n) (hb : shK b = 10 + c) (had : ad b = q) {X : va_W} : ∃ qk : Nat, (X ++ wl (rng b n) AC ad μ)[qk]? = some ((q, Sum.inr (c, fl ad c b (cN c) (μ.1 b))) : Nat × va_E) := by
  apply List.getElem?_of_mem
  refine List.mem_append_right _ (List.mem_map.mpr ⟨b, rng_mem.mpr ⟨by omega, by omega⟩, ?_⟩)
  rw [had, cE_o hb]
theorem headQ_P {b t m : Nat} {F : Nat → Option Nat} {n : Nat} {μ : Mm} (hb : shK b = t) (h1 : 2 < t) (h2 : t < 10) (hm : shN b = m) (hf : ∀ j, j < m → F j = some (ad (sub b j))) {h0 : Nat} (had : ad b = h0) {T : va_W} (h : va_P D cl ((h0, .inl (AC t, m, .inr (.inr (.inr (.inr F))))) :: T) H) (hT : va_P D cl (wl (rng (b + 1) n) AC ad μ) H) : va_P D cl (wl (rng b (n + 1)) AC ad μ) H := by
  rw [rng_s]
  refine P_cons ?_ hT
  show va_at D cl (ad b, cE AC ad μ b) H
  rw [had, cE_q hb h1 h2, hm]
  exact at_q hf (P_hd h)
theorem P_nil : va_P D cl [] H := P_of fun x hx => by cases hx
theorem D_nil : va_D A [] := ⟨fun i j p q h => (by cases h), fun k q h => (by cases h)⟩
end MK3
