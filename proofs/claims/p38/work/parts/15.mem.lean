/-! memory: reads behind writes; frames -/
theorem sI_s {μ : Mm} {k j : Nat} {v : Int32} : (sI μ k j v).1 k = upd (μ.1 k) j v := by simp [sI, va_up]
theorem sI_o {μ : Mm} {k j k2 : Nat} {v : Int32} (h : k2 ≠ k) : (sI μ k j v).1 k2 = μ.1 k2 := by simp [sI, va_up, h]
theorem sL_s {μ : Mm} {k j : Nat} {v : Int64} : (sL μ k j v).2 k = vp_updL (μ.2 k) j v := by simp [sL, va_up]
theorem sL_o {μ : Mm} {k j k2 : Nat} {v : Int64} (h : k2 ≠ k) : (sL μ k j v).2 k2 = μ.2 k2 := by simp [sL, va_up, h]
theorem up_s {f : Nat → Int32} {j : Nat} {v : Int32} : upd f j v j = v := if_pos rfl
theorem up_o {f : Nat → Int32} {j i : Nat} {v : Int32} (h : i ≠ j) : upd f j v i = f i := if_neg h
theorem uL_s {f : Nat → Int64} {j : Nat} {v : Int64} : vp_updL f j v j = v := if_pos rfl
theorem uL_o {f : Nat → Int64} {j i : Nat} {v : Int64} (h : i ≠ j) : vp_updL f j v i = f i := if_neg h
/-- a whole row of longs anew -/
def wL (μ : Mm) (k : Nat) (f : Nat → Int64) : Mm := (μ.1, va_up μ.2 k f)
theorem wL_s {μ : Mm} {k : Nat} {f : Nat → Int64} : (wL μ k f).2 k = f := by simp [wL, va_up]
theorem wL_o {μ : Mm} {k k2 : Nat} {f : Nat → Int64} (h : k2 ≠ k) : (wL μ k f).2 k2 = μ.2 k2 := by simp [wL, va_up, h]
theorem wL_w {μ : Mm} {k : Nat} {f g : Nat → Int64} : wL (wL μ k f) k g = wL μ k g := by
  refine Prod.ext rfl (funext fun i => ?_)
  by_cases h : i = k <;> simp [wL, va_up, h]
theorem wL_u {μ : Mm} {k j : Nat} {f : Nat → Int64} {v : Int64} : sL (wL μ k f) k j v = wL μ k (vp_updL f j v) := by
  refine Prod.ext rfl (funext fun i => ?_)
  by_cases h : i = k <;> simp [wL, sL, va_up, h]
theorem wL_e {μ : Mm} {k : Nat} : wL μ k (μ.2 k) = μ := by
  refine Prod.ext rfl (funext fun i => ?_)
  by_cases h : i = k <;> simp [wL, va_up, h]
theorem sL_e {μ : Mm} {k j : Nat} {v : Int64} : sL μ k j v = wL μ k (vp_updL (μ.2 k) j v) := rfl
/-- all that is not in these cells is as it was -/
def Fr (S : Nat → Prop) (μ μ' : Mm) : Prop := ∀ k, ¬ S k → μ'.1 k = μ.1 k ∧ μ'.2 k = μ.2 k
theorem Fr.rf {S : Nat → Prop} {μ : Mm} : Fr S μ μ := fun _ _ => ⟨rfl, rfl⟩
theorem Fr.tr {S T : Nat → Prop} {a b c : Mm} (h : Fr S a b) (g : Fr T b c) : Fr (fun k => S k ∨ T k) a c := fun k hk =>
  ⟨(g k (fun q => hk (Or.inr q))).1.trans (h k (fun q => hk (Or.inl q))).1, (g k (fun q => hk (Or.inr q))).2.trans (h k (fun q => hk (Or.inl q))).2⟩
theorem Fr.w {S T : Nat → Prop} {a b : Mm} (h : Fr S a b) (hT : ∀ k, S k → T k) : Fr T a b := fun k hk => h k (fun q => hk (hT k q))
theorem Fr.t2 {S : Nat → Prop} {a b c : Mm} (h : Fr S a b) (g : Fr S b c) : Fr S a c := (h.tr g).w (fun _ q => q.elim id id)
theorem Fr.sI {S : Nat → Prop} {μ : Mm} {k j : Nat} {v : Int32} (h : S k) : Fr S μ (sI μ k j v) := fun i hi => ⟨sI_o (fun e => hi (e ▸ h)), rfl⟩
theorem Fr.sL {S : Nat → Prop} {μ : Mm} {k j : Nat} {v : Int64} (h : S k) : Fr S μ (sL μ k j v) := fun i hi => ⟨rfl, sL_o (fun e => hi (e ▸ h))⟩
theorem Fr.wL {S : Nat → Prop} {μ : Mm} {k : Nat} {f : Nat → Int64} (h : S k) : Fr S μ (wL μ k f) := fun i hi => ⟨rfl, wL_o (fun e => hi (e ▸ h))⟩
