/-! equations, printed by program -/
set_option maxRecDepth 10000 in
theorem e_Bi_ofFloat (x0 : UInt32) (μ : Mm) : m_Bi_ofFloat x0 μ = bif decide (nI 0 < Op.cmpValue (FP.fcmp x0 FP.fconst0) CmpOp.g) then (gd (n64 (FP.f2d x0)) (cI (m_Bi_exponentOf (FP.f2d x0) μ) fun v2 μ1 => cD (m_Bi_scaled (FP.f2d x0) v2 μ1) fun v4 μ3 => gd (n64 (FP.dsub v4 FP.dconst1)) (gd (n64 (FP.dmul (FP.dsub v4 FP.dconst1) (4710765210229538816 : UInt64))) (some (some (.int (((v2 + (nI 127)) <<< ((nI 23) &&& 31)) ||| (FP.d2i (FP.dmul (FP.dsub v4 FP.dconst1) (4710765210229538816 : UInt64))))), μ3))))) else (some (some (.int (nI 0)), μ)) := (semC_eq _).trans rfl
set_option maxRecDepth 10000 in
theorem e_Bi_ofDouble (x0 : UInt64) (μ : Mm) : m_Bi_ofDouble x0 μ = bif decide (Op.cmpValue (FP.dcmp x0 FP.dconst0) CmpOp.l = nI 0) then (some (some (.long (lN 0)), μ)) else (bif decide (Op.cmpValue (FP.dcmp x0 FP.dconst0) CmpOp.g < nI 0) then (cI (m_Bi_exponentOf (FP.dneg x0) μ) fun v6 μ5 => cD (m_Bi_scaled (FP.dneg x0) v6 μ5) fun v8 μ7 => gd (n64 (FP.dsub v8 FP.dconst1)) (gd (n64 (FP.dmul (FP.dsub v8 FP.dconst1) (4841369599423283200 : UInt64))) (bif decide (Op.cmpValue (FP.dcmp x0 FP.dconst0) CmpOp.g < nI 0) then (some (some (.long (((((v6 + (nI 1023)).toInt64) <<< ((nI 52).toInt64 &&& 63)) ||| (FP.d2l (FP.dmul (FP.dsub v8 FP.dconst1) (4841369599423283200 : UInt64)))) ||| (-9223372036854775808 : Int64))), μ7)) else (some (some (.long ((((v6 + (nI 1023)).toInt64) <<< ((nI 52).toInt64 &&& 63)) ||| (FP.d2l (FP.dmul (FP.dsub v8 FP.dconst1) (4841369599423283200 : UInt64))))), μ7))))) else (cI (m_Bi_exponentOf x0 μ) fun v2 μ1 => cD (m_Bi_scaled x0 v2 μ1) fun v4 μ3 => gd (n64 (FP.dsub v4 FP.dconst1)) (gd (n64 (FP.dmul (FP.dsub v4 FP.dconst1) (4841369599423283200 : UInt64))) (bif decide (Op.cmpValue (FP.dcmp x0 FP.dconst0) CmpOp.g < nI 0) then (some (some (.long (((((v2 + (nI 1023)).toInt64) <<< ((nI 52).toInt64 &&& 63)) ||| (FP.d2l (FP.dmul (FP.dsub v4 FP.dconst1) (4841369599423283200 : UInt64)))) ||| (-9223372036854775808 : Int64))), μ3)) else (some (some (.long ((((v2 + (nI 1023)).toInt64) <<< ((nI 52).toInt64 &&& 63)) ||| (FP.d2l (FP.dmul (FP.dsub v4 FP.dconst1) (4841369599423283200 : UInt64))))), μ3)))))) := (semC_eq _).trans rfl
set_option maxRecDepth 10000 in
theorem e_Bi_exponentOf (x0 : UInt64) (μ : Mm) : m_Bi_exponentOf x0 μ = m_Bi_exponentOf_8 x0 (nI 0) (nI 0) μ := (semC_eq _).trans rfl
set_option maxRecDepth 10000 in
theorem e_Bi_exponentOf_8 (x2 : UInt64) (x4 : Int32) (x5 : Int32) (μ : Mm) : m_Bi_exponentOf_8 x2 x4 x5 μ = bif decide (x5 < nI 1022) then (bif decide (Op.cmpValue (FP.dcmp x2 (4611686018427387904 : UInt64)) CmpOp.l < nI 0) then (m_Bi_exponentOf_42 x2 x4 (nI 0) μ) else (gd (n64 (FP.ddiv x2 (4611686018427387904 : UInt64))) (m_Bi_exponentOf_8 (FP.ddiv x2 (4611686018427387904 : UInt64)) (x4 + (nI 1)) (x5 + (nI 1)) μ))) else (m_Bi_exponentOf_42 x2 x4 (nI 0) μ) := (semC_eq _).trans rfl
set_option maxRecDepth 10000 in
theorem e_Bi_exponentOf_42 (x2 : UInt64) (x4 : Int32) (x5 : Int32) (μ : Mm) : m_Bi_exponentOf_42 x2 x4 x5 μ = bif decide (x5 < nI 1022) then (bif decide (Op.cmpValue (FP.dcmp x2 FP.dconst1) CmpOp.g < nI 0) then (gd (n64 (FP.dmul x2 (4611686018427387904 : UInt64))) (m_Bi_exponentOf_42 (FP.dmul x2 (4611686018427387904 : UInt64)) (x4 + (-1 : Int32)) (x5 + (nI 1)) μ)) else (some (some (.int x4), μ))) else (some (some (.int x4), μ)) := (semC_eq _).trans rfl
set_option maxRecDepth 10000 in
theorem e_Bi_scaled (x0 : UInt64) (x2 : Int32) (μ : Mm) : m_Bi_scaled x0 x2 μ = m_Bi_scaled_5 x2 x0 (nI 0) μ := (semC_eq _).trans rfl
set_option maxRecDepth 10000 in
theorem e_Bi_scaled_5 (x2 : Int32) (x3 : UInt64) (x5 : Int32) (μ : Mm) : m_Bi_scaled_5 x2 x3 x5 μ = bif decide (x5 < x2) then (gd (n64 (FP.ddiv x3 (4611686018427387904 : UInt64))) (m_Bi_scaled_5 x2 (FP.ddiv x3 (4611686018427387904 : UInt64)) (x5 + (nI 1)) μ)) else (m_Bi_scaled_26 x2 x3 (nI 0) μ) := (semC_eq _).trans rfl
set_option maxRecDepth 10000 in
theorem e_Bi_scaled_26 (x2 : Int32) (x3 : UInt64) (x5 : Int32) (μ : Mm) : m_Bi_scaled_26 x2 x3 x5 μ = bif decide (x2 < x5) then (gd (n64 (FP.dmul x3 (4611686018427387904 : UInt64))) (m_Bi_scaled_26 x2 (FP.dmul x3 (4611686018427387904 : UInt64)) (x5 + (-1 : Int32)) μ)) else (some (some (.double x3), μ)) := (semC_eq _).trans rfl
set_option maxRecDepth 10000 in
theorem e_Co_chosen (x1 : Int32) (x2 : Int32) (μ : Mm) : m_Co_chosen x1 x2 μ = bif decide (x1 < nI 0) then (bif decide (nI 0 = nI 0) then (gd (inb (nI 1) 36) (some (some (.ref (sub 2 (nI 1).toNatClampNeg)), μ))) else (gd (inb ((x1 * (nI 6)) + x2) 36) (some (some (.ref (sub 2 ((x1 * (nI 6)) + x2).toNatClampNeg)), μ)))) else (bif decide (x1 < nI 6) then (bif decide (x2 < nI 0) then (bif decide (nI 0 = nI 0) then (gd (inb (nI 1) 36) (some (some (.ref (sub 2 (nI 1).toNatClampNeg)), μ))) else (gd (inb ((x1 * (nI 6)) + x2) 36) (some (some (.ref (sub 2 ((x1 * (nI 6)) + x2).toNatClampNeg)), μ)))) else (bif decide (x2 < nI 6) then (bif decide (nI 1 = nI 0) then (gd (inb (nI 1) 36) (some (some (.ref (sub 2 (nI 1).toNatClampNeg)), μ))) else (gd (inb ((x1 * (nI 6)) + x2) 36) (some (some (.ref (sub 2 ((x1 * (nI 6)) + x2).toNatClampNeg)), μ)))) else (bif decide (nI 0 = nI 0) then (gd (inb (nI 1) 36) (some (some (.ref (sub 2 (nI 1).toNatClampNeg)), μ))) else (gd (inb ((x1 * (nI 6)) + x2) 36) (some (some (.ref (sub 2 ((x1 * (nI 6)) + x2).toNatClampNeg)), μ)))))) else (bif decide (nI 0 = nI 0) then (gd (inb (nI 1) 36) (some (some (.ref (sub 2 (nI 1).toNatClampNeg)), μ))) else (gd (inb ((x1 * (nI 6)) + x2) 36) (some (some (.ref (sub 2 ((x1 * (nI 6)) + x2).toNatClampNeg)), μ))))) := (semC_eq _).trans rfl
set_option maxRecDepth 10000 in
theorem e_Co_writeSubgroups (x1 : Nat) (x2 : Int32) (x3 : Int32) (μ : Mm) : m_Co_writeSubgroups x1 x2 x3 μ = cI (m_Ty_lies x3 x2 μ) fun v2 μ1 => bif decide (v2 = nI 0) then (cV (m_Po_writeZero x1 μ1) fun μ4 => some (none, μ4)) else (cV (m_Po_writeOne x1 μ1) fun μ3 => m_Co_writeSubgroups_20 x1 x2 x3 (nI 1) μ3) := (semC_eq _).trans rfl
set_option maxRecDepth 10000 in
theorem e_Co_writeSubgroups_20 (x1 : Nat) (x2 : Int32) (x3 : Int32) (x4 : Int32) (μ : Mm) : m_Co_writeSubgroups_20 x1 x2 x3 x4 μ = bif decide (nI 5 < x4) then (some (none, μ)) else (cI (m_Ty_column x2 x4 μ) fun v2 μ1 => cI (m_Ty_column x3 x4 μ1) fun v4 μ3 => cI (m_Ty_column x3 (x4 + (nI 1)) μ3) fun v6 μ5 => cV (m_Po_raise x1 (v6 * (v2 - v4)) μ5) fun μ7 => cA (m_Co_chosen (v2 - v6) (v4 - v6) μ7) fun a9 μ8 => cV (m_Po_multiply x1 a9 μ8) fun μ10 => m_Co_writeSubgroups_20 x1 x2 x3 (x4 + (nI 1)) μ10) := (semC_eq _).trans rfl
set_option maxRecDepth 10000 in
theorem e_Co_writeHall (x1 : Nat) (x2 : Int32) (x3 : Int32) (x4 : Int32) (μ : Mm) : m_Co_writeHall x1 x2 x3 x4 μ = cV (m_Po_writeZero x1 μ) fun μ1 => cI (m_Ty_size x3 μ1) fun v3 μ2 => cI (m_Ty_size x4 μ2) fun v5 μ4 => cI (m_Ty_size x2 μ4) fun v7 μ6 => bif decide (v3 + v5 = v7) then (cI (m_Ty_size x3 μ6) fun v9 μ8 => cI (m_Ty_size x4 μ8) fun v11 μ10 => bif decide (v9 < v11) then (bif decide (x4 = x3) then (m_Co_writeHall_54 x1 x2 x4 x4 μ10) else (m_Co_writeHall_54 x1 x2 x4 x3 μ10)) else (bif decide (x3 = x3) then (m_Co_writeHall_54 x1 x2 x3 x4 μ10) else (m_Co_writeHall_54 x1 x2 x3 x3 μ10))) else (some (none, μ6)) := (semC_eq _).trans rfl
set_option maxRecDepth 10000 in
theorem e_Co_writeHall_54 (x1 : Nat) (x2 : Int32) (x5 : Int32) (y0 : Int32) (μ : Mm) : m_Co_writeHall_54 x1 x2 x5 y0 μ = bif decide (y0 = nI 2) then (cV (m_Co_writeByOnes 59 x2 x5 (nI 2) μ) fun μ1 => cV (m_Po_add x1 59 (-1 : Int64) μ1) fun μ2 => cV (m_Po_raise 59 (nI 1) μ2) fun μ3 => cV (m_Po_add x1 59 (-1 : Int64) μ3) fun μ4 => m_Co_writeHall_121 x1 x2 x5 (nI 0) μ4) else (cI (m_Ty_parts y0 μ) fun v6 μ5 => cV (m_Co_writeByOnes x1 x2 x5 v6 μ5) fun μ7 => some (none, μ7)) := (semC_eq _).trans rfl
set_option maxRecDepth 10000 in
theorem e_Co_writeHall_121 (x1 : Nat) (x2 : Int32) (x5 : Int32) (x7 : Int32) (μ : Mm) : m_Co_writeHall_121 x1 x2 x5 x7 μ = bif decide (x7 < nI 19) then (cV (m_Co_writeByOnes 59 x2 x7 (nI 1) μ) fun μ1 => cV (m_Co_writeByOnes 60 x7 x5 (nI 1) μ1) fun μ2 => cV (m_Po_multiply 59 60 μ2) fun μ3 => cV (m_Po_add x1 59 (lN 1) μ3) fun μ4 => m_Co_writeHall_121 x1 x2 x5 (x7 + (nI 1)) μ4) else (some (none, μ)) := (semC_eq _).trans rfl
set_option maxRecDepth 10000 in
theorem e_Co_writeByOnes (x1 : Nat) (x2 : Int32) (x3 : Int32) (x4 : Int32) (μ : Mm) : m_Co_writeByOnes x1 x2 x3 x4 μ = cV (m_Po_writeZero x1 μ) fun μ1 => cI (m_Ty_size x3 μ1) fun v3 μ2 => cI (m_Ty_size x2 μ2) fun v5 μ4 => bif decide (v3 + x4 = v5) then (cV (m_Po_writeOne x1 μ4) fun μ6 => cI (m_Ty_heavy x2 μ6) fun v8 μ7 => cI (m_Ty_heavy x3 μ7) fun v10 μ9 => gd (!decide (nI 2 = 0)) (m_Co_writeByOnes_47 x1 x2 x3 ((v8 - v10) - ((x4 * (x4 - (nI 1))) / (nI 2))) (nI 1) μ9)) else (some (none, μ4)) := (semC_eq _).trans rfl
set_option maxRecDepth 10000 in
theorem e_Co_writeByOnes_47 (x1 : Nat) (x2 : Int32) (x3 : Int32) (x5 : Int32) (x6 : Int32) (μ : Mm) : m_Co_writeByOnes_47 x1 x2 x3 x5 x6 μ = bif decide (nI 5 < x6) then (cV (m_Po_raise x1 x5 μ) fun μ1 => some (none, μ1)) else (cI (m_Ty_column x2 x6 μ) fun v3 μ2 => cI (m_Ty_column x2 (x6 + (nI 1)) μ2) fun v5 μ4 => cI (m_Ty_column x2 x6 μ4) fun v7 μ6 => cI (m_Ty_column x3 x6 μ6) fun v9 μ8 => cA (m_Co_chosen (v3 - v5) (v7 - v9) μ8) fun a11 μ10 => cV (m_Po_multiply x1 a11 μ10) fun μ12 => m_Co_writeByOnes_47 x1 x2 x3 (x5 - ((v7 - v9) * ((v3 - v5) - (v7 - v9)))) (x6 + (nI 1)) μ12) := (semC_eq _).trans rfl
set_option maxRecDepth 10000 in
theorem e_Co_isWhole (x0 : Int32) (μ : Mm) : m_Co_isWhole x0 μ = bif decide (x0 < nI 0) then (gd (isb (nI 0)) (some (some (.int (nI 0)), μ))) else (bif decide (nI 2 < x0) then (gd (isb (nI 0)) (some (some (.int (nI 0)), μ))) else (gd (isb (nI 1)) (some (some (.int (nI 1)), μ)))) := (semC_eq _).trans rfl
set_option maxRecDepth 10000 in
theorem e_Co_writeWhole (x1 : Nat) (x2 : Int32) (x3 : Int32) (μ : Mm) : m_Co_writeWhole x1 x2 x3 μ = bif decide (x3 = nI 0) then (cV (m_Co_writeAllSubgroups x1 x2 μ) fun μ3 => some (none, μ3)) else (bif decide (x3 = nI 1) then (cV (m_Co_writeAutomorphisms x1 x2 μ) fun μ2 => some (none, μ2)) else (cV (m_Co_writeChains x1 x2 μ) fun μ1 => some (none, μ1))) := (semC_eq _).trans rfl
set_option maxRecDepth 10000 in
theorem e_Co_writeAllSubgroups (x1 : Nat) (x2 : Int32) (μ : Mm) : m_Co_writeAllSubgroups x1 x2 μ = cV (m_Po_writeZero x1 μ) fun μ1 => m_Co_writeAllSubgroups_6 x1 x2 (nI 0) μ1 := (semC_eq _).trans rfl
set_option maxRecDepth 10000 in
theorem e_Co_writeAllSubgroups_6 (x1 : Nat) (x2 : Int32) (x3 : Int32) (μ : Mm) : m_Co_writeAllSubgroups_6 x1 x2 x3 μ = bif decide (x3 < nI 19) then (cV (m_Co_writeSubgroups 59 x2 x3 μ) fun μ1 => cV (m_Po_add x1 59 (lN 1) μ1) fun μ2 => m_Co_writeAllSubgroups_6 x1 x2 (x3 + (nI 1)) μ2) else (some (none, μ)) := (semC_eq _).trans rfl
set_option maxRecDepth 10000 in
theorem e_Co_writeAutomorphisms (x0 : Nat) (x1 : Int32) (μ : Mm) : m_Co_writeAutomorphisms x0 x1 μ = cV (m_Po_writeOne x0 μ) fun μ1 => m_Co_writeAutomorphisms_6 x0 x1 (nI 1) μ1 := (semC_eq _).trans rfl
set_option maxRecDepth 10000 in
theorem e_Co_writeAutomorphisms_6 (x0 : Nat) (x1 : Int32) (x2 : Int32) (μ : Mm) : m_Co_writeAutomorphisms_6 x0 x1 x2 μ = bif decide (nI 5 < x2) then (some (none, μ)) else (cI (m_Ty_column x1 x2 μ) fun v2 μ1 => cI (m_Ty_column x1 (x2 + (nI 1)) μ1) fun v4 μ3 => cV (m_Po_raise x0 (v2 * v2) μ3) fun μ5 => m_Co_writeAutomorphisms_36 x0 x1 x2 v2 v4 (nI 1) μ5) := (semC_eq _).trans rfl
set_option maxRecDepth 10000 in
theorem e_Co_writeAutomorphisms_36 (x0 : Nat) (x1 : Int32) (x2 : Int32) (x3 : Int32) (x4 : Int32) (x5 : Int32) (μ : Mm) : m_Co_writeAutomorphisms_36 x0 x1 x2 x3 x4 x5 μ = bif decide (x3 - x4 < x5) then (m_Co_writeAutomorphisms_6 x0 x1 (x2 + (nI 1)) μ) else (cV (m_Po_lessen x0 x5 μ) fun μ1 => m_Co_writeAutomorphisms_36 x0 x1 x2 x3 x4 (x5 + (nI 1)) μ1) := (semC_eq _).trans rfl
set_option maxRecDepth 10000 in
theorem e_Co_writeChains (x1 : Nat) (x2 : Int32) (μ : Mm) : m_Co_writeChains x1 x2 μ = bif decide (μ.1 1 2 = nI 0) then (cV (m_Co_learnChains μ) fun μ2 => gd (isb (nI 1)) (bif decide (x2 < nI 0) then (some (none, sI μ2 1 2 (nI 1))) else (bif decide (x2 < nI 19) then (gd (inb x2 19) (cV (m_Po_copy (sub 39 x2.toNatClampNeg) x1 (sI μ2 1 2 (nI 1))) fun μ3 => some (none, μ3))) else (some (none, sI μ2 1 2 (nI 1)))))) else (bif decide (x2 < nI 0) then (some (none, μ)) else (bif decide (x2 < nI 19) then (gd (inb x2 19) (cV (m_Po_copy (sub 39 x2.toNatClampNeg) x1 μ) fun μ1 => some (none, μ1))) else (some (none, μ)))) := (semC_eq _).trans rfl
set_option maxRecDepth 10000 in
theorem e_Co_learnChains  (μ : Mm) : m_Co_learnChains μ = gd (inb (nI 0) 19) (cV (m_Po_writeOne (sub 39 (nI 0).toNatClampNeg) μ) fun μ1 => m_Co_learnChains_11 (nI 1) μ1) := (semC_eq _).trans rfl
set_option maxRecDepth 10000 in
theorem e_Co_learnChains_11 (x1 : Int32) (μ : Mm) : m_Co_learnChains_11 x1 μ = bif decide (x1 < nI 19) then (gd (inb x1 19) (cV (m_Po_writeZero (sub 39 x1.toNatClampNeg) μ) fun μ1 => m_Co_learnChains_28 x1 (nI 0) μ1)) else (some (none, μ)) := (semC_eq _).trans rfl
set_option maxRecDepth 10000 in
theorem e_Co_learnChains_28 (x1 : Int32) (x2 : Int32) (μ : Mm) : m_Co_learnChains_28 x1 x2 μ = bif decide (x2 < x1) then (cI (m_Ty_size x2 μ) fun v2 μ1 => cI (m_Ty_size x1 μ1) fun v4 μ3 => bif decide (v2 + (nI 1) = v4) then (cV (m_Co_writeSubgroups 59 x1 x2 μ3) fun μ5 => gd (inb x2 19) (cV (m_Po_multiply 59 (sub 39 x2.toNatClampNeg) μ5) fun μ6 => gd (inb x1 19) (cV (m_Po_add (sub 39 x1.toNatClampNeg) 59 (lN 1) μ6) fun μ7 => m_Co_learnChains_28 x1 (x2 + (nI 1)) μ7))) else (m_Co_learnChains_28 x1 (x2 + (nI 1)) μ3)) else (m_Co_learnChains_11 (x1 + (nI 1)) μ) := (semC_eq _).trans rfl
set_option maxRecDepth 10000 in
theorem e_Gr_typeHeld  (μ : Mm) : m_Gr_typeHeld μ = some (some (.int (μ.1 61 0)), μ) := (semC_eq _).trans rfl
set_option maxRecDepth 10000 in
theorem e_Gr_primeHeld  (μ : Mm) : m_Gr_primeHeld μ = some (some (.int (μ.1 61 1)), μ) := (semC_eq _).trans rfl
set_option maxRecDepth 10000 in
theorem e_Gr_elements  (μ : Mm) : m_Gr_elements μ = some (some (.int (μ.1 61 2)), μ) := (semC_eq _).trans rfl
set_option maxRecDepth 10000 in
theorem e_Gr_partCount  (μ : Mm) : m_Gr_partCount μ = some (some (.int (μ.1 61 3)), μ) := (semC_eq _).trans rfl
set_option maxRecDepth 10000 in
theorem e_Gr_elementsOf (x0 : Int32) (x1 : Int32) (μ : Mm) : m_Gr_elementsOf x0 x1 μ = cI (m_Ty_size x0 μ) fun v2 μ1 => m_Gr_elementsOf_10 x1 (nI 1) v2 (nI 0) μ1 := (semC_eq _).trans rfl
set_option maxRecDepth 10000 in
theorem e_Gr_elementsOf_10 (x1 : Int32) (x2 : Int32) (x3 : Int32) (x4 : Int32) (μ : Mm) : m_Gr_elementsOf_10 x1 x2 x3 x4 μ = bif decide (x4 < x3) then (m_Gr_elementsOf_10 x1 (x2 * x1) x3 (x4 + (nI 1)) μ) else (some (some (.int x2), μ)) := (semC_eq _).trans rfl
set_option maxRecDepth 10000 in
theorem e_Gr_become (x1 : Int32) (x2 : Int32) (μ : Mm) : m_Gr_become x1 x2 μ = bif decide (x1 = μ.1 61 0) then (bif decide (x2 = μ.1 61 1) then (some (none, μ)) else (cI (m_Gr_elementsOf x1 x2 (sI (sI μ 61 0 x1) 61 1 x2)) fun v8 μ7 => cI (m_Ty_parts x1 (sI μ7 61 2 v8)) fun v10 μ9 => cV (m_Gr_learnFigures (sI μ9 61 3 v10)) fun μ11 => cV (m_Gr_learnSums μ11) fun μ12 => m_Gr_become_54 (nI 0) μ12)) else (cI (m_Gr_elementsOf x1 x2 (sI (sI μ 61 0 x1) 61 1 x2)) fun v2 μ1 => cI (m_Ty_parts x1 (sI μ1 61 2 v2)) fun v4 μ3 => cV (m_Gr_learnFigures (sI μ3 61 3 v4)) fun μ5 => cV (m_Gr_learnSums μ5) fun μ6 => m_Gr_become_54 (nI 0) μ6) := (semC_eq _).trans rfl
set_option maxRecDepth 10000 in
theorem e_Gr_become_54 (x3 : Int32) (μ : Mm) : m_Gr_become_54 x3 μ = bif decide (x3 < μ.1 61 2) then (bif decide (x3 < nI 32) then (cI (m_Gr_multiplied x3 (μ.1 61 1) μ) fun v2 μ1 => gd (inb x3 32) (m_Gr_become_54 (x3 + (nI 1)) (sI μ1 65 x3.toNatClampNeg v2))) else (gd (isb (nI 0)) (some (none, sI μ 61 8 (nI 0))))) else (gd (isb (nI 0)) (some (none, sI μ 61 8 (nI 0)))) := (semC_eq _).trans rfl
set_option maxRecDepth 10000 in
theorem e_Gr_learnFigures  (μ : Mm) : m_Gr_learnFigures μ = m_Gr_learnFigures_4 (nI 1) (nI 0) μ := (semC_eq _).trans rfl
set_option maxRecDepth 10000 in
theorem e_Gr_learnFigures_4 (x1 : Int32) (x2 : Int32) (μ : Mm) : m_Gr_learnFigures_4 x1 x2 μ = bif decide (x2 < μ.1 61 3) then (bif decide (x2 < nI 5) then (cI (m_Ty_partAt (μ.1 61 0) x2 μ) fun v2 μ1 => m_Gr_learnFigures_36 x1 x2 (nI 1) v2 (nI 0) μ1) else (some (none, μ))) else (some (none, μ)) := (semC_eq _).trans rfl
set_option maxRecDepth 10000 in
theorem e_Gr_learnFigures_36 (x1 : Int32) (x2 : Int32) (x3 : Int32) (x4 : Int32) (x5 : Int32) (μ : Mm) : m_Gr_learnFigures_36 x1 x2 x3 x4 x5 μ = bif decide (x5 < x4) then (m_Gr_learnFigures_36 x1 x2 (x3 * (μ.1 61 1)) x4 (x5 + (nI 1)) μ) else (gd (inb x2 5) (gd (inb x2 5) (m_Gr_learnFigures_4 (x1 * x3) (x2 + (nI 1)) (sI (sI μ 63 x2.toNatClampNeg x1) 62 x2.toNatClampNeg x3)))) := (semC_eq _).trans rfl
set_option maxRecDepth 10000 in
theorem e_Gr_learnSums  (μ : Mm) : m_Gr_learnSums μ = m_Gr_learnSums_2 (nI 0) μ := (semC_eq _).trans rfl
set_option maxRecDepth 10000 in
theorem e_Gr_learnSums_2 (x1 : Int32) (μ : Mm) : m_Gr_learnSums_2 x1 μ = bif decide (x1 < μ.1 61 2) then (bif decide (x1 < nI 32) then (gd (inb (x1 * (nI 32)) 1024) (m_Gr_learnSums_2 (x1 + (nI 1)) (sI μ 64 (x1 * (nI 32)).toNatClampNeg x1))) else (m_Gr_learnSums_34 (nI 1) μ)) else (m_Gr_learnSums_34 (nI 1) μ) := (semC_eq _).trans rfl
set_option maxRecDepth 10000 in
theorem e_Gr_learnSums_34 (x1 : Int32) (μ : Mm) : m_Gr_learnSums_34 x1 μ = bif decide (x1 < μ.1 61 2) then (bif decide (x1 < nI 32) then (cI (m_Gr_topFigure x1 μ) fun v2 μ1 => gd (inb v2 5) (cI (m_jM_max (nI 0) (x1 - (μ1.1 63 v2.toNatClampNeg)) μ1) fun v4 μ3 => m_Gr_learnSums_70 x1 v2 v4 (nI 0) μ3)) else (some (none, μ))) else (some (none, μ)) := (semC_eq _).trans rfl
set_option maxRecDepth 10000 in
theorem e_Gr_learnSums_70 (x1 : Int32) (x2 : Int32) (x3 : Int32) (x4 : Int32) (μ : Mm) : m_Gr_learnSums_70 x1 x2 x3 x4 μ = bif decide (x4 < μ.1 61 2) then (bif decide (x4 < nI 32) then (gd (inb ((x4 * (nI 32)) + x3) 1024) (cI (m_Gr_stepped (μ.1 64 ((x4 * (nI 32)) + x3).toNatClampNeg) x2 μ) fun v2 μ1 => gd (inb ((x4 * (nI 32)) + x1) 1024) (m_Gr_learnSums_70 x1 x2 x3 (x4 + (nI 1)) (sI μ1 64 ((x4 * (nI 32)) + x1).toNatClampNeg v2)))) else (m_Gr_learnSums_34 (x1 + (nI 1)) μ)) else (m_Gr_learnSums_34 (x1 + (nI 1)) μ) := (semC_eq _).trans rfl
set_option maxRecDepth 10000 in
theorem e_Gr_topFigure (x1 : Int32) (μ : Mm) : m_Gr_topFigure x1 μ = m_Gr_topFigure_4 x1 (nI 0) (nI 0) μ := (semC_eq _).trans rfl
set_option maxRecDepth 10000 in
theorem e_Gr_topFigure_4 (x1 : Int32) (x2 : Int32) (x3 : Int32) (μ : Mm) : m_Gr_topFigure_4 x1 x2 x3 μ = bif decide (x3 < μ.1 61 3) then (bif decide (x3 < nI 5) then (gd (inb x3 5) (bif decide (x1 < μ.1 63 x3.toNatClampNeg) then (m_Gr_topFigure_4 x1 x2 (x3 + (nI 1)) μ) else (m_Gr_topFigure_4 x1 x3 (x3 + (nI 1)) μ))) else (some (some (.int x2), μ))) else (some (some (.int x2), μ)) := (semC_eq _).trans rfl
set_option maxRecDepth 10000 in
theorem e_Gr_stepped (x1 : Int32) (x2 : Int32) (μ : Mm) : m_Gr_stepped x1 x2 μ = bif decide (x2 < nI 0) then (some (some (.int x1), μ)) else (bif decide (x2 < nI 5) then (cI (m_Gr_figureOf x1 x2 μ) fun v2 μ1 => gd (inb x2 5) (bif decide (v2 = (μ1.1 62 x2.toNatClampNeg) - (nI 1)) then (bif decide (nI 1 = nI 0) then (gd (inb x2 5) (some (some (.int (x1 + (μ1.1 63 x2.toNatClampNeg))), μ1))) else (gd (inb x2 5) (gd (inb x2 5) (some (some (.int (x1 - ((μ1.1 63 x2.toNatClampNeg) * ((μ1.1 62 x2.toNatClampNeg) - (nI 1))))), μ1))))) else (bif decide (nI 0 = nI 0) then (gd (inb x2 5) (some (some (.int (x1 + (μ1.1 63 x2.toNatClampNeg))), μ1))) else (gd (inb x2 5) (gd (inb x2 5) (some (some (.int (x1 - ((μ1.1 63 x2.toNatClampNeg) * ((μ1.1 62 x2.toNatClampNeg) - (nI 1))))), μ1))))))) else (some (some (.int x1), μ))) := (semC_eq _).trans rfl
set_option maxRecDepth 10000 in
theorem e_Gr_figureOf (x1 : Int32) (x2 : Int32) (μ : Mm) : m_Gr_figureOf x1 x2 μ = bif decide (x2 < nI 0) then (some (some (.int (nI 0)), μ)) else (bif decide (x2 < nI 5) then (gd (inb x2 5) (bif decide (μ.1 63 x2.toNatClampNeg < nI 1) then (some (some (.int (nI 0)), μ)) else (gd (inb x2 5) (bif decide (μ.1 62 x2.toNatClampNeg < nI 1) then (some (some (.int (nI 0)), μ)) else (gd (inb x2 5) (gd (!decide (μ.1 63 x2.toNatClampNeg = 0)) (gd (inb x2 5) (gd (!decide (μ.1 62 x2.toNatClampNeg = 0)) (some (some (.int ((x1 / (μ.1 63 x2.toNatClampNeg)) - (x1 / (μ.1 63 x2.toNatClampNeg)) / (μ.1 62 x2.toNatClampNeg) * (μ.1 62 x2.toNatClampNeg))), μ)))))))))) else (some (some (.int (nI 0)), μ))) := (semC_eq _).trans rfl
set_option maxRecDepth 10000 in
theorem e_Gr_has (x1 : Int32) (μ : Mm) : m_Gr_has x1 μ = bif decide (x1 < nI 0) then (gd (isb (nI 0)) (some (some (.int (nI 0)), μ))) else (bif decide (x1 < μ.1 61 2) then (gd (isb (nI 1)) (some (some (.int (nI 1)), μ))) else (gd (isb (nI 0)) (some (some (.int (nI 0)), μ)))) := (semC_eq _).trans rfl
set_option maxRecDepth 10000 in
theorem e_Gr_everything  (μ : Mm) : m_Gr_everything μ = some (some (.long (((lN 1) <<< ((μ.1 61 2).toInt64 &&& 63)) - (lN 1))), μ) := (semC_eq _).trans rfl
set_option maxRecDepth 10000 in
theorem e_Gr_hasAll (x1 : Int64) (μ : Mm) : m_Gr_hasAll x1 μ = cJ (m_Gr_everything μ) fun v2 μ1 => bif decide (lg_cmp (x1 &&& (v2 ^^^ (-1 : Int64))) (lN 0) = nI 0) then (gd (isb (nI 1)) (some (some (.int (nI 1)), μ1))) else (gd (isb (nI 0)) (some (some (.int (nI 0)), μ1))) := (semC_eq _).trans rfl
set_option maxRecDepth 10000 in
theorem e_Gr_hasBit (x0 : Int64) (x2 : Int32) (μ : Mm) : m_Gr_hasBit x0 x2 μ = bif decide (lg_cmp (((x0.toUInt64 >>> (x2.toInt64.toUInt64 &&& Int64.toUInt64 63)).toInt64) &&& (lN 1)) (lN 0) = nI 0) then (gd (isb (nI 0)) (some (some (.int (nI 0)), μ))) else (gd (isb (nI 1)) (some (some (.int (nI 1)), μ))) := (semC_eq _).trans rfl
set_option maxRecDepth 10000 in
theorem e_Gr_multiplied (x1 : Int32) (x2 : Int32) (μ : Mm) : m_Gr_multiplied x1 x2 μ = m_Gr_multiplied_5 x1 x2 (nI 0) (nI 0) μ := (semC_eq _).trans rfl
set_option maxRecDepth 10000 in
theorem e_Gr_multiplied_5 (x1 : Int32) (x2 : Int32) (x3 : Int32) (x4 : Int32) (μ : Mm) : m_Gr_multiplied_5 x1 x2 x3 x4 μ = bif decide (x4 < μ.1 61 3) then (bif decide (x4 < nI 5) then (gd (inb x4 5) (bif decide (nI 0 < lg_cmp ((μ.1 62 x4.toNatClampNeg).toInt64) (lN 0)) then (cI (m_Gr_figureOf x1 x4 μ) fun v2 μ1 => cJ (m_jM_floorMod (v2.toInt64 * x2.toInt64) ((μ.1 62 x4.toNatClampNeg).toInt64) μ1) fun v4 μ3 => gd (inb x4 5) (m_Gr_multiplied_5 x1 x2 (x3 + (v4.toInt32 * (μ3.1 63 x4.toNatClampNeg))) (x4 + (nI 1)) μ3)) else (m_Gr_multiplied_5 x1 x2 x3 (x4 + (nI 1)) μ))) else (some (some (.int x3), μ))) else (some (some (.int x3), μ)) := (semC_eq _).trans rfl
set_option maxRecDepth 10000 in
theorem e_Gr_added (x1 : Int32) (x2 : Int32) (μ : Mm) : m_Gr_added x1 x2 μ = bif decide (x1 < nI 0) then (bif decide (nI 0 = nI 0) then (some (some (.int (nI 0)), μ)) else (gd (inb ((x1 * (nI 32)) + x2) 1024) (some (some (.int (μ.1 64 ((x1 * (nI 32)) + x2).toNatClampNeg)), μ)))) else (bif decide (x1 < nI 32) then (bif decide (x2 < nI 0) then (bif decide (nI 0 = nI 0) then (some (some (.int (nI 0)), μ)) else (gd (inb ((x1 * (nI 32)) + x2) 1024) (some (some (.int (μ.1 64 ((x1 * (nI 32)) + x2).toNatClampNeg)), μ)))) else (bif decide (x2 < nI 32) then (bif decide (nI 1 = nI 0) then (some (some (.int (nI 0)), μ)) else (gd (inb ((x1 * (nI 32)) + x2) 1024) (some (some (.int (μ.1 64 ((x1 * (nI 32)) + x2).toNatClampNeg)), μ)))) else (bif decide (nI 0 = nI 0) then (some (some (.int (nI 0)), μ)) else (gd (inb ((x1 * (nI 32)) + x2) 1024) (some (some (.int (μ.1 64 ((x1 * (nI 32)) + x2).toNatClampNeg)), μ)))))) else (bif decide (nI 0 = nI 0) then (some (some (.int (nI 0)), μ)) else (gd (inb ((x1 * (nI 32)) + x2) 1024) (some (some (.int (μ.1 64 ((x1 * (nI 32)) + x2).toNatClampNeg)), μ))))) := (semC_eq _).trans rfl
set_option maxRecDepth 10000 in
theorem e_Gr_orderOf (x1 : Int32) (μ : Mm) : m_Gr_orderOf x1 μ = m_Gr_orderOf_4 x1 x1 (nI 1) μ := (semC_eq _).trans rfl
set_option maxRecDepth 10000 in
theorem e_Gr_orderOf_4 (x1 : Int32) (x2 : Int32) (x3 : Int32) (μ : Mm) : m_Gr_orderOf_4 x1 x2 x3 μ = bif decide (x3 < μ.1 61 2) then (bif decide (x2 = nI 0) then (some (some (.int x3), μ)) else (cI (m_Gr_added x2 x1 μ) fun v2 μ1 => m_Gr_orderOf_4 x1 v2 (x3 + (nI 1)) μ1)) else (some (some (.int (μ.1 61 2)), μ)) := (semC_eq _).trans rfl
set_option maxRecDepth 10000 in
theorem e_Gr_shifted (x1 : Int64) (x3 : Int32) (μ : Mm) : m_Gr_shifted x1 x3 μ = m_Gr_shifted_6 x1 x3 (lN 0) (nI 0) μ := (semC_eq _).trans rfl
set_option maxRecDepth 10000 in
theorem e_Gr_shifted_6 (x1 : Int64) (x3 : Int32) (x4 : Int64) (x6 : Int32) (μ : Mm) : m_Gr_shifted_6 x1 x3 x4 x6 μ = bif decide (x6 < μ.1 61 2) then (cI (m_Gr_hasBit x1 x6 μ) fun v2 μ1 => bif decide (v2 = nI 0) then (m_Gr_shifted_6 x1 x3 x4 (x6 + (nI 1)) μ1) else (cI (m_Gr_added x6 x3 μ1) fun v4 μ3 => m_Gr_shifted_6 x1 x3 (x4 ||| ((lN 1) <<< (v4.toInt64 &&& 63))) (x6 + (nI 1)) μ3)) else (some (some (.long x4), μ)) := (semC_eq _).trans rfl
set_option maxRecDepth 10000 in
theorem e_Gr_joined (x1 : Int64) (x3 : Int32) (μ : Mm) : m_Gr_joined x1 x3 μ = m_Gr_joined_9 x1 x3 x1 x1 (nI 1) μ := (semC_eq _).trans rfl
set_option maxRecDepth 10000 in
theorem e_Gr_joined_9 (x1 : Int64) (x3 : Int32) (x4 : Int64) (x6 : Int64) (x8 : Int32) (μ : Mm) : m_Gr_joined_9 x1 x3 x4 x6 x8 μ = bif decide (x8 < μ.1 61 2) then (cJ (m_Gr_shifted x6 x3 μ) fun v2 μ1 => bif decide (lg_cmp v2 x1 = nI 0) then (some (some (.long x4), μ1)) else (m_Gr_joined_9 x1 x3 (x4 ||| v2) v2 (x8 + (nI 1)) μ1)) else (some (some (.long x4), μ)) := (semC_eq _).trans rfl
set_option maxRecDepth 10000 in
theorem e_Gr_spanOf (x1 : Int64) (μ : Mm) : m_Gr_spanOf x1 μ = m_Gr_spanOf_5 x1 (lN 1) (nI 1) μ := (semC_eq _).trans rfl
set_option maxRecDepth 10000 in
theorem e_Gr_spanOf_5 (x1 : Int64) (x3 : Int64) (x5 : Int32) (μ : Mm) : m_Gr_spanOf_5 x1 x3 x5 μ = bif decide (x5 < μ.1 61 2) then (cI (m_Gr_hasBit x1 x5 μ) fun v2 μ1 => bif decide (v2 = nI 0) then (m_Gr_spanOf_5 x1 x3 (x5 + (nI 1)) μ1) else (cI (m_Gr_hasBit x3 x5 μ1) fun v4 μ3 => bif decide (v4 = nI 0) then (cJ (m_Gr_joined x3 x5 μ3) fun v6 μ5 => m_Gr_spanOf_5 x1 v6 (x5 + (nI 1)) μ5) else (m_Gr_spanOf_5 x1 x3 (x5 + (nI 1)) μ3))) else (some (some (.long x3), μ)) := (semC_eq _).trans rfl
set_option maxRecDepth 10000 in
theorem e_Gr_isSubgroup (x1 : Int64) (μ : Mm) : m_Gr_isSubgroup x1 μ = cJ (m_Gr_spanOf x1 μ) fun v2 μ1 => bif decide (lg_cmp v2 x1 = nI 0) then (gd (isb (nI 1)) (some (some (.int (nI 1)), μ1))) else (gd (isb (nI 0)) (some (some (.int (nI 0)), μ1))) := (semC_eq _).trans rfl
set_option maxRecDepth 10000 in
theorem e_Gr_typeOf (x1 : Int64) (μ : Mm) : m_Gr_typeOf x1 μ = cI (m_Gr_typeBetween x1 (lN 1) μ) fun v2 μ1 => some (some (.int v2), μ1) := (semC_eq _).trans rfl
set_option maxRecDepth 10000 in
theorem e_Gr_cotypeOf (x1 : Int64) (μ : Mm) : m_Gr_cotypeOf x1 μ = cJ (m_Gr_everything μ) fun v2 μ1 => cI (m_Gr_typeBetween v2 x1 μ1) fun v4 μ3 => some (some (.int v4), μ3) := (semC_eq _).trans rfl
set_option maxRecDepth 10000 in
theorem e_Gr_typeBetween (x1 : Int64) (x3 : Int64) (μ : Mm) : m_Gr_typeBetween x1 x3 μ = cI (m_jL_bitCount x3 μ) fun v2 μ1 => m_Gr_typeBetween_15 x1 (nI 0) x3 v2 (nI 1) μ1 := (semC_eq _).trans rfl
set_option maxRecDepth 10000 in
theorem e_Gr_typeBetween_15 (x1 : Int64) (x5 : Int32) (x6 : Int64) (x8 : Int32) (x9 : Int32) (μ : Mm) : m_Gr_typeBetween_15 x1 x5 x6 x8 x9 μ = bif decide (nI 5 < x9) then (cI (m_Ty_find x5 μ) fun v2 μ1 => cI (m_Ty_turned v2 μ1) fun v4 μ3 => some (some (.int v4), μ3)) else (bif decide (lg_cmp (x1 &&& (x6 ^^^ (-1 : Int64))) (lN 0) = nI 0) then (cI (m_Ty_find x5 μ) fun v6 μ5 => cI (m_Ty_turned v6 μ5) fun v8 μ7 => some (some (.int v8), μ7)) else (cJ (m_Gr_broughtInto x6 μ) fun v10 μ9 => cI (m_jL_bitCount (x1 &&& v10) μ9) fun v12 μ11 => bif decide (nI 0 < x8) then (gd (!decide (x8 = 0)) (cI (m_Gr_exponent (v12 / x8) μ11) fun v16 μ15 => m_Gr_typeBetween_15 x1 ((x5 * (nI 10)) + v16) v10 v12 (x9 + (nI 1)) μ15)) else (cI (m_Gr_exponent (nI 1) μ11) fun v14 μ13 => m_Gr_typeBetween_15 x1 ((x5 * (nI 10)) + v14) v10 v12 (x9 + (nI 1)) μ13))) := (semC_eq _).trans rfl
set_option maxRecDepth 10000 in
theorem e_Gr_broughtInto (x1 : Int64) (μ : Mm) : m_Gr_broughtInto x1 μ = m_Gr_broughtInto_5 x1 (lN 0) (nI 0) μ := (semC_eq _).trans rfl
set_option maxRecDepth 10000 in
theorem e_Gr_broughtInto_5 (x1 : Int64) (x3 : Int64) (x5 : Int32) (μ : Mm) : m_Gr_broughtInto_5 x1 x3 x5 μ = bif decide (x5 < μ.1 61 2) then (bif decide (x5 < nI 32) then (gd (inb x5 32) (cI (m_Gr_hasBit x1 (μ.1 65 x5.toNatClampNeg) μ) fun v2 μ1 => bif decide (v2 = nI 0) then (m_Gr_broughtInto_5 x1 x3 (x5 + (nI 1)) μ1) else (m_Gr_broughtInto_5 x1 (x3 ||| ((lN 1) <<< (x5.toInt64 &&& 63))) (x5 + (nI 1)) μ1))) else (some (some (.long x3), μ))) else (some (some (.long x3), μ)) := (semC_eq _).trans rfl
set_option maxRecDepth 10000 in
theorem e_Gr_exponent (x1 : Int32) (μ : Mm) : m_Gr_exponent x1 μ = m_Gr_exponent_7 x1 (nI 0) (nI 0) μ := (semC_eq _).trans rfl
set_option maxRecDepth 10000 in
theorem e_Gr_exponent_7 (x2 : Int32) (x3 : Int32) (x4 : Int32) (μ : Mm) : m_Gr_exponent_7 x2 x3 x4 μ = bif decide (x4 < nI 5) then (bif decide (nI 1 < x2) then (bif decide (nI 1 < μ.1 61 1) then (gd (!decide (μ.1 61 1 = 0)) (m_Gr_exponent_7 (x2 / (μ.1 61 1)) (x3 + (nI 1)) (x4 + (nI 1)) μ)) else (some (some (.int x3), μ))) else (some (some (.int x3), μ))) else (some (some (.int x3), μ)) := (semC_eq _).trans rfl
set_option maxRecDepth 10000 in
theorem e_Gr_learn  (μ : Mm) : m_Gr_learn μ = bif decide (μ.1 61 8 = nI 0) then (gd (isb (nI 1)) (cV (m_Gr_learnList (sI μ 61 8 (nI 1))) fun μ1 => cV (m_Gr_learnTypes μ1) fun μ2 => some (none, μ2))) else (some (none, μ)) := (semC_eq _).trans rfl
set_option maxRecDepth 10000 in
theorem e_Gr_subgroupCount  (μ : Mm) : m_Gr_subgroupCount μ = some (some (.int (μ.1 61 9)), μ) := (semC_eq _).trans rfl
set_option maxRecDepth 10000 in
theorem e_Gr_subgroupAt (x1 : Int32) (μ : Mm) : m_Gr_subgroupAt x1 μ = bif decide (x1 < nI 0) then (some (some (.long (lN 0)), μ)) else (bif decide (x1 < μ.1 61 9) then (bif decide (x1 < nI 400) then (gd (inb x1 400) (some (some (.long (μ.2 66 x1.toNatClampNeg)), μ))) else (some (some (.long (lN 0)), μ))) else (some (some (.long (lN 0)), μ))) := (semC_eq _).trans rfl
set_option maxRecDepth 10000 in
theorem e_Gr_countOf (x1 : Int32) (x2 : Int32) (μ : Mm) : m_Gr_countOf x1 x2 μ = m_Gr_countOf_5 x1 x2 (nI 0) (nI 0) μ := (semC_eq _).trans rfl
set_option maxRecDepth 10000 in
theorem e_Gr_countOf_5 (x1 : Int32) (x2 : Int32) (x3 : Int32) (x4 : Int32) (μ : Mm) : m_Gr_countOf_5 x1 x2 x3 x4 μ = bif decide (x4 < μ.1 61 9) then (bif decide (x4 < nI 400) then (gd (inb x4 400) (bif decide (μ.1 67 x4.toNatClampNeg = x1) then (bif decide (x2 = (-1 : Int32)) then (m_Gr_countOf_5 x1 x2 (x3 + (nI 1)) (x4 + (nI 1)) μ) else (gd (inb x4 400) (bif decide (μ.1 68 x4.toNatClampNeg = x2) then (m_Gr_countOf_5 x1 x2 (x3 + (nI 1)) (x4 + (nI 1)) μ) else (m_Gr_countOf_5 x1 x2 x3 (x4 + (nI 1)) μ)))) else (m_Gr_countOf_5 x1 x2 x3 (x4 + (nI 1)) μ))) else (some (some (.int x3), μ))) else (some (some (.int x3), μ)) := (semC_eq _).trans rfl
set_option maxRecDepth 10000 in
theorem e_Gr_learnList  (μ : Mm) : m_Gr_learnList μ = gd (inb (nI 0) 400) (cI (m_Ty_size ((sI (sL μ 66 (nI 0).toNatClampNeg (lN 1)) 61 9 (nI 1)).1 61 0) (sI (sL μ 66 (nI 0).toNatClampNeg (lN 1)) 61 9 (nI 1))) fun v2 μ1 => m_Gr_learnList_24 (nI 0) v2 (nI 0) μ1) := (semC_eq _).trans rfl
set_option maxRecDepth 10000 in
theorem e_Gr_learnList_24 (x1 : Int32) (x2 : Int32) (x3 : Int32) (μ : Mm) : m_Gr_learnList_24 x1 x2 x3 μ = bif decide (x3 < x2) then (m_Gr_learnList_38 x2 x3 (μ.1 61 9) x1 μ) else (some (none, μ)) := (semC_eq _).trans rfl
set_option maxRecDepth 10000 in
theorem e_Gr_learnList_38 (x2 : Int32) (x3 : Int32) (x4 : Int32) (x5 : Int32) (μ : Mm) : m_Gr_learnList_38 x2 x3 x4 x5 μ = bif decide (x5 < x4) then (bif decide (x5 < nI 400) then (gd (inb x5 400) (cV (m_Gr_listAbove (μ.2 66 x5.toNatClampNeg) x4 μ) fun μ1 => m_Gr_learnList_38 x2 x3 x4 (x5 + (nI 1)) μ1)) else (m_Gr_learnList_24 x4 x2 (x3 + (nI 1)) μ)) else (m_Gr_learnList_24 x4 x2 (x3 + (nI 1)) μ) := (semC_eq _).trans rfl
set_option maxRecDepth 10000 in
theorem e_Gr_listAbove (x1 : Int64) (x3 : Int32) (μ : Mm) : m_Gr_listAbove x1 x3 μ = cJ (m_Gr_everything μ) fun v2 μ1 => m_Gr_listAbove_15 x1 x3 (v2 &&& (x1 ^^^ (-1 : Int64))) (nI 1) μ1 := (semC_eq _).trans rfl
set_option maxRecDepth 10000 in
theorem e_Gr_listAbove_15 (x1 : Int64) (x3 : Int32) (x4 : Int64) (x6 : Int32) (μ : Mm) : m_Gr_listAbove_15 x1 x3 x4 x6 μ = bif decide (x6 < μ.1 61 2) then (bif decide (x6 < nI 32) then (cI (m_Gr_hasBit x4 x6 μ) fun v2 μ1 => bif decide (v2 = nI 0) then (m_Gr_listAbove_15 x1 x3 x4 (x6 + (nI 1)) μ1) else (gd (inb x6 32) (cI (m_Gr_hasBit x1 (μ1.1 65 x6.toNatClampNeg) μ1) fun v4 μ3 => bif decide (v4 = nI 0) then (m_Gr_listAbove_15 x1 x3 x4 (x6 + (nI 1)) μ3) else (cJ (m_Gr_joined x1 x6 μ3) fun v6 μ5 => cV (m_Gr_insert v6 x3 μ5) fun μ7 => m_Gr_listAbove_15 x1 x3 (x4 &&& (v6 ^^^ (-1 : Int64))) (x6 + (nI 1)) μ7)))) else (some (none, μ))) else (some (none, μ)) := (semC_eq _).trans rfl
set_option maxRecDepth 10000 in
theorem e_Gr_insert (x1 : Int64) (x3 : Int32) (μ : Mm) : m_Gr_insert x1 x3 μ = m_Gr_insert_12 x1 x3 (μ.1 61 9) (nI 0) μ := (semC_eq _).trans rfl
set_option maxRecDepth 10000 in
theorem e_Gr_insert_12 (x1 : Int64) (x4 : Int32) (x5 : Int32) (x6 : Int32) (μ : Mm) : m_Gr_insert_12 x1 x4 x5 x6 μ = bif decide (x6 < nI 32) then (bif decide (x4 < x5) then (gd (!decide (nI 2 = 0)) (cJ (m_Gr_subgroupAt ((x4 + x5) / (nI 2)) μ) fun v6 μ5 => bif decide (lg_cmp v6 x1 < nI 0) then (m_Gr_insert_12 x1 (((x4 + x5) / (nI 2)) + (nI 1)) x5 (x6 + (nI 1)) μ5) else (m_Gr_insert_12 x1 x4 ((x4 + x5) / (nI 2)) (x6 + (nI 1)) μ5))) else (bif decide (x4 < μ.1 61 9) then (cJ (m_Gr_subgroupAt x4 μ) fun v4 μ3 => bif decide (lg_cmp v4 x1 = nI 0) then (m_Gr_insert_90 x1 x4 (nI 1) μ3) else (m_Gr_insert_90 x1 x4 (nI 0) μ3)) else (m_Gr_insert_90 x1 x4 (nI 0) μ))) else (bif decide (x4 < μ.1 61 9) then (cJ (m_Gr_subgroupAt x4 μ) fun v2 μ1 => bif decide (lg_cmp v2 x1 = nI 0) then (m_Gr_insert_90 x1 x4 (nI 1) μ1) else (m_Gr_insert_90 x1 x4 (nI 0) μ1)) else (m_Gr_insert_90 x1 x4 (nI 0) μ)) := (semC_eq _).trans rfl
set_option maxRecDepth 10000 in
theorem e_Gr_insert_90 (x1 : Int64) (x4 : Int32) (y0 : Int32) (μ : Mm) : m_Gr_insert_90 x1 x4 y0 μ = bif decide (y0 = nI 0) then (bif decide (x4 < nI 0) then (some (none, μ)) else (bif decide (μ.1 61 9 < nI 400) then (m_Gr_insert_121 x1 x4 (μ.1 61 9) μ) else (some (none, μ)))) else (some (none, μ)) := (semC_eq _).trans rfl
set_option maxRecDepth 10000 in
theorem e_Gr_insert_121 (x1 : Int64) (x4 : Int32) (x7 : Int32) (μ : Mm) : m_Gr_insert_121 x1 x4 x7 μ = bif decide (x4 < x7) then (gd (inb (x7 - (nI 1)) 400) (gd (inb x7 400) (m_Gr_insert_121 x1 x4 (x7 + (-1 : Int32)) (sL μ 66 x7.toNatClampNeg (μ.2 66 (x7 - (nI 1)).toNatClampNeg))))) else (gd (inb x4 400) (some (none, sI (sL μ 66 x4.toNatClampNeg x1) 61 9 (((sL μ 66 x4.toNatClampNeg x1).1 61 9) + (nI 1))))) := (semC_eq _).trans rfl
set_option maxRecDepth 10000 in
theorem e_Gr_learnTypes  (μ : Mm) : m_Gr_learnTypes μ = m_Gr_learnTypes_2 (nI 0) μ := (semC_eq _).trans rfl
set_option maxRecDepth 10000 in
theorem e_Gr_learnTypes_2 (x1 : Int32) (μ : Mm) : m_Gr_learnTypes_2 x1 μ = bif decide (x1 < μ.1 61 9) then (bif decide (x1 < nI 400) then (gd (inb x1 400) (cI (m_Gr_typeBetween (μ.2 66 x1.toNatClampNeg) (lN 1) μ) fun v2 μ1 => gd (inb x1 400) (cJ (m_Gr_everything (sI μ1 67 x1.toNatClampNeg v2)) fun v4 μ3 => gd (inb x1 400) (cI (m_Gr_typeBetween v4 (μ3.2 66 x1.toNatClampNeg) μ3) fun v6 μ5 => gd (inb x1 400) (m_Gr_learnTypes_2 (x1 + (nI 1)) (sI μ5 68 x1.toNatClampNeg v6)))))) else (some (none, μ))) else (some (none, μ)) := (semC_eq _).trans rfl
set_option maxRecDepth 10000 in
theorem e_Mi_rowOf (x0 : Nat) (x1 : Int32) (μ : Mm) : m_Mi_rowOf x0 x1 μ = gd (isO x0 3) (bif decide (x1 < nI 0) then (gd (inb (nI 0) (lnQ (sub x0 0))) (some (some (.ref (sub (sub x0 0) (nI 0).toNatClampNeg)), μ))) else (gd (isO x0 3) (gd (Nat.ble (shK (sub x0 0)) 5) (bif decide (x1 < nI (shN (sub x0 0))) then (gd (inb x1 (lnQ (sub x0 0))) (some (some (.ref (sub (sub x0 0) x1.toNatClampNeg)), μ))) else (gd (inb (nI 0) (lnQ (sub x0 0))) (some (some (.ref (sub (sub x0 0) (nI 0).toNatClampNeg)), μ))))))) := (semC_eq _).trans rfl
set_option maxRecDepth 10000 in
theorem e_Mi_writeZero (x0 : Nat) (μ : Mm) : m_Mi_writeZero x0 μ = m_Mi_writeZero_2 x0 (nI 0) μ := (semC_eq _).trans rfl
set_option maxRecDepth 10000 in
theorem e_Mi_writeZero_2 (x0 : Nat) (x1 : Int32) (μ : Mm) : m_Mi_writeZero_2 x0 x1 μ = gd (isO x0 3) (gd (Nat.ble (shK (sub x0 0)) 5) (bif decide (x1 < nI (shN (sub x0 0))) then (gd (isO x0 3) (gd (inb x1 (lnQ (sub x0 0))) (cV (m_Po_writeZero (sub (sub x0 0) x1.toNatClampNeg) μ) fun μ1 => m_Mi_writeZero_2 x0 (x1 + (nI 1)) μ1))) else (some (none, μ)))) := (semC_eq _).trans rfl
set_option maxRecDepth 10000 in
theorem e_Mi_writeSingle (x0 : Nat) (x1 : Int32) (x2 : Int64) (μ : Mm) : m_Mi_writeSingle x0 x1 x2 μ = gd (isO x0 3 && (true && true)) (cV (m_Mi_writeZero x0 μ) fun μ1 => gd (isO x0 3 && (true && true)) (cA (m_Mi_rowOf x0 x1 μ1) fun a3 μ2 => gd (inb (nI 0) (lnL a3)) (some (none, sL μ2 a3 (nI 0).toNatClampNeg x2)))) := (semC_eq _).trans rfl
set_option maxRecDepth 10000 in
theorem e_Mi_copyFrom (x0 : Nat) (x1 : Nat) (μ : Mm) : m_Mi_copyFrom x0 x1 μ = m_Mi_copyFrom_2 x0 x1 (nI 0) μ := (semC_eq _).trans rfl
set_option maxRecDepth 10000 in
theorem e_Mi_copyFrom_2 (x0 : Nat) (x1 : Nat) (x2 : Int32) (μ : Mm) : m_Mi_copyFrom_2 x0 x1 x2 μ = gd (isO x0 3) (gd (Nat.ble (shK (sub x0 0)) 5) (bif decide (x2 < nI (shN (sub x0 0))) then (gd (isO x1 3 && (true && true)) (cA (m_Mi_rowOf x1 x2 μ) fun a2 μ1 => gd (isO x0 3) (gd (inb x2 (lnQ (sub x0 0))) (cV (m_Po_copy a2 (sub (sub x0 0) x2.toNatClampNeg) μ1) fun μ3 => m_Mi_copyFrom_2 x0 x1 (x2 + (nI 1)) μ3)))) else (some (none, μ)))) := (semC_eq _).trans rfl
set_option maxRecDepth 10000 in
theorem e_Mi_add (x0 : Nat) (x1 : Nat) (x2 : Int64) (μ : Mm) : m_Mi_add x0 x1 x2 μ = m_Mi_add_3 x0 x1 x2 (nI 0) μ := (semC_eq _).trans rfl
set_option maxRecDepth 10000 in
theorem e_Mi_add_3 (x0 : Nat) (x1 : Nat) (x2 : Int64) (x4 : Int32) (μ : Mm) : m_Mi_add_3 x0 x1 x2 x4 μ = gd (isO x0 3) (gd (Nat.ble (shK (sub x0 0)) 5) (bif decide (x4 < nI (shN (sub x0 0))) then (gd (isO x0 3) (gd (inb x4 (lnQ (sub x0 0))) (gd (isO x1 3 && (true && true)) (cA (m_Mi_rowOf x1 x4 μ) fun a2 μ1 => cV (m_Po_add (sub (sub x0 0) x4.toNatClampNeg) a2 x2 μ1) fun μ3 => m_Mi_add_3 x0 x1 x2 (x4 + (nI 1)) μ3)))) else (some (none, μ)))) := (semC_eq _).trans rfl
set_option maxRecDepth 10000 in
theorem e_Mi_greatest (x0 : Nat) (μ : Mm) : m_Mi_greatest x0 μ = gd (isO x0 3) (gd (Nat.ble (shK (sub x0 0)) 5) (m_Mi_greatest_8 x0 ((nI (shN (sub x0 0))) - (nI 1)) μ)) := (semC_eq _).trans rfl
set_option maxRecDepth 10000 in
theorem e_Mi_greatest_8 (x0 : Nat) (x1 : Int32) (μ : Mm) : m_Mi_greatest_8 x0 x1 μ = bif decide (x1 < nI 0) then (some (some (.int (-5 : Int32)), μ)) else (gd (isO x0 3 && (true && true)) (cI (m_Mi_hasTerm x0 x1 μ) fun v2 μ1 => bif decide (v2 = nI 0) then (m_Mi_greatest_8 x0 (x1 + (-1 : Int32)) μ1) else (cI (m_Ty_size x1 μ1) fun v4 μ3 => some (some (.int v4), μ3)))) := (semC_eq _).trans rfl
set_option maxRecDepth 10000 in
theorem e_Mi_hasTerm (x0 : Nat) (x1 : Int32) (μ : Mm) : m_Mi_hasTerm x0 x1 μ = gd (isO x0 3 && (true && true)) (cA (m_Mi_rowOf x0 x1 μ) fun a2 μ1 => cI (m_Po_degree a2 μ1) fun v4 μ3 => bif decide (v4 < nI 0) then (gd (isb (nI 0)) (some (some (.int (nI 0)), μ3))) else (gd (isb (nI 1)) (some (some (.int (nI 1)), μ3)))) := (semC_eq _).trans rfl
set_option maxRecDepth 10000 in
theorem e_Mi_terms (x0 : Nat) (μ : Mm) : m_Mi_terms x0 μ = m_Mi_terms_4 x0 (nI 0) (nI 0) μ := (semC_eq _).trans rfl
set_option maxRecDepth 10000 in
theorem e_Mi_terms_4 (x0 : Nat) (x1 : Int32) (x2 : Int32) (μ : Mm) : m_Mi_terms_4 x0 x1 x2 μ = gd (isO x0 3) (gd (Nat.ble (shK (sub x0 0)) 5) (bif decide (x2 < nI (shN (sub x0 0))) then (gd (isO x0 3 && (true && true)) (cI (m_Mi_hasTerm x0 x2 μ) fun v2 μ1 => bif decide (v2 = nI 0) then (m_Mi_terms_4 x0 x1 (x2 + (nI 1)) μ1) else (m_Mi_terms_4 x0 (x1 + (nI 1)) (x2 + (nI 1)) μ1))) else (some (some (.int x1), μ)))) := (semC_eq _).trans rfl
set_option maxRecDepth 10000 in
theorem e_Mi_termAt (x0 : Nat) (x1 : Int32) (μ : Mm) : m_Mi_termAt x0 x1 μ = m_Mi_termAt_4 x0 x1 (nI 0) (nI 0) μ := (semC_eq _).trans rfl
set_option maxRecDepth 10000 in
theorem e_Mi_termAt_4 (x0 : Nat) (x1 : Int32) (x2 : Int32) (x3 : Int32) (μ : Mm) : m_Mi_termAt_4 x0 x1 x2 x3 μ = gd (isO x0 3) (gd (Nat.ble (shK (sub x0 0)) 5) (bif decide (x3 < nI (shN (sub x0 0))) then (gd (isO x0 3 && (true && true)) (cI (m_Mi_hasTerm x0 x3 μ) fun v2 μ1 => bif decide (v2 = nI 0) then (m_Mi_termAt_4 x0 x1 x2 (x3 + (nI 1)) μ1) else (bif decide (x2 = x1) then (some (some (.int x3), μ1)) else (m_Mi_termAt_4 x0 x1 (x2 + (nI 1)) (x3 + (nI 1)) μ1)))) else (some (some (.int (-1 : Int32)), μ)))) := (semC_eq _).trans rfl
set_option maxRecDepth 10000 in
theorem e_Po_isPart (x0 : Int32) (μ : Mm) : m_Po_isPart x0 μ = bif decide (x0 < (-1 : Int32)) then (gd (isb (nI 0)) (some (some (.int (nI 0)), μ))) else (bif decide (x0 < nI 31) then (gd (isb (nI 1)) (some (some (.int (nI 1)), μ))) else (gd (isb (nI 0)) (some (some (.int (nI 0)), μ)))) := (semC_eq _).trans rfl
set_option maxRecDepth 10000 in
theorem e_Po_partOf (x0 : Nat) (x1 : Int32) (μ : Mm) : m_Po_partOf x0 x1 μ = bif decide (x1 = (-1 : Int32)) then (cI (m_Po_degree x0 μ) fun v2 μ1 => some (some (.long v2.toInt64), μ1)) else (bif decide (x1 < nI 0) then (some (some (.long (lN 0)), μ)) else (gd (Nat.ble (shK x0) 5) (bif decide (x1 < nI (shN x0)) then (gd (inb x1 (lnL x0)) (some (some (.long (μ.2 x0 x1.toNatClampNeg)), μ))) else (some (some (.long (lN 0)), μ))))) := (semC_eq _).trans rfl
set_option maxRecDepth 10000 in
theorem e_Po_degree (x0 : Nat) (μ : Mm) : m_Po_degree x0 μ = gd (Nat.ble (shK x0) 5) (m_Po_degree_5 x0 ((nI (shN x0)) - (nI 1)) μ) := (semC_eq _).trans rfl
set_option maxRecDepth 10000 in
theorem e_Po_degree_5 (x0 : Nat) (x1 : Int32) (μ : Mm) : m_Po_degree_5 x0 x1 μ = bif decide (x1 < nI 0) then (some (some (.int (-5 : Int32)), μ)) else (gd (inb x1 (lnL x0)) (bif decide (lg_cmp (μ.2 x0 x1.toNatClampNeg) (lN 0) = nI 0) then (m_Po_degree_5 x0 (x1 + (-1 : Int32)) μ) else (some (some (.int x1), μ)))) := (semC_eq _).trans rfl
set_option maxRecDepth 10000 in
theorem e_Po_writeZero (x0 : Nat) (μ : Mm) : m_Po_writeZero x0 μ = m_Po_writeZero_2 x0 (nI 0) μ := (semC_eq _).trans rfl
set_option maxRecDepth 10000 in
theorem e_Po_writeZero_2 (x0 : Nat) (x1 : Int32) (μ : Mm) : m_Po_writeZero_2 x0 x1 μ = gd (Nat.ble (shK x0) 5) (bif decide (x1 < nI (shN x0)) then (gd (inb x1 (lnL x0)) (m_Po_writeZero_2 x0 (x1 + (nI 1)) (sL μ x0 x1.toNatClampNeg (lN 0)))) else (some (none, μ))) := (semC_eq _).trans rfl
set_option maxRecDepth 10000 in
theorem e_Po_writeOne (x0 : Nat) (μ : Mm) : m_Po_writeOne x0 μ = cV (m_Po_writeZero x0 μ) fun μ1 => gd (Nat.ble (shK x0) 5) (bif decide (nI 0 < nI (shN x0)) then (gd (inb (nI 0) (lnL x0)) (some (none, sL μ1 x0 (nI 0).toNatClampNeg (lN 1)))) else (some (none, μ1))) := (semC_eq _).trans rfl
set_option maxRecDepth 10000 in
theorem e_Po_copy (x0 : Nat) (x1 : Nat) (μ : Mm) : m_Po_copy x0 x1 μ = m_Po_copy_2 x0 x1 (nI 0) μ := (semC_eq _).trans rfl
set_option maxRecDepth 10000 in
theorem e_Po_copy_2 (x0 : Nat) (x1 : Nat) (x2 : Int32) (μ : Mm) : m_Po_copy_2 x0 x1 x2 μ = gd (Nat.ble (shK x1) 5) (bif decide (x2 < nI (shN x1)) then (gd (Nat.ble (shK x0) 5) (bif decide (x2 < nI (shN x0)) then (gd (inb x2 (lnL x0)) (gd (inb x2 (lnL x1)) (m_Po_copy_2 x0 x1 (x2 + (nI 1)) (sL μ x1 x2.toNatClampNeg (μ.2 x0 x2.toNatClampNeg))))) else (gd (inb x2 (lnL x1)) (m_Po_copy_2 x0 x1 (x2 + (nI 1)) (sL μ x1 x2.toNatClampNeg (lN 0)))))) else (some (none, μ))) := (semC_eq _).trans rfl
