/-! equations, printed by program -/
set_option maxRecDepth 10000 in
theorem e_TI_copyShelves (x0 : Nat) (x1 : Nat) (μ : Mm) : m_TI_copyShelves x0 x1 μ = m_TI_copyShelves_2 x0 x1 (nI 0) μ := (semC_eq _).trans rfl
set_option maxRecDepth 10000 in
theorem e_TI_copyShelves_2 (x0 : Nat) (x1 : Nat) (x2 : Int32) (μ : Mm) : m_TI_copyShelves_2 x0 x1 x2 μ = gd (Nat.ble (shK x0) 5) (bif decide (x2 < nI (shN x0)) then (gd (Nat.ble (shK x1) 5) (bif decide (x2 < nI (shN x1)) then (gd (inb x2 (lnQ x1)) (gd (inb x2 (lnQ x0)) (gd (isO (sub x1 x2.toNatClampNeg) 4 && (true && true)) (cV (m_Sh_copyFrom (sub x1 x2.toNatClampNeg) (sub x0 x2.toNatClampNeg) μ) fun μ1 => m_TI_copyShelves_2 x0 x1 (x2 + (nI 1)) μ1)))) else (some (none, μ)))) else (some (none, μ))) := (semC_eq _).trans rfl
set_option maxRecDepth 10000 in
theorem e_TI_count (x1 : Int32) (μ : Mm) : m_TI_count x1 μ = (bif decide (x1 = nI 0) then (cI (m_Gr_typeHeld μ) fun v2 μ1 => cI (m_Ty_number v2 μ1) fun v4 μ3 => some (some (.int v4), μ3)) else (bif decide (x1 = nI 0 + 1) then (cI (m_Gr_primeHeld μ) fun v6 μ5 => some (some (.int v6), μ5)) else (bif decide (x1 = nI 0 + 1 + 1) then (cI (m_Gr_elements μ) fun v8 μ7 => some (some (.int v8), μ7)) else (bif decide (x1 = nI 0 + 1 + 1 + 1) then (cI (m_Mi_terms 244 μ) fun v10 μ9 => some (some (.int v10), μ9)) else (bif decide (x1 = nI 0 + 1 + 1 + 1 + 1) then (cI (m_Su_tapeLength μ) fun v12 μ11 => some (some (.int v12), μ11)) else (bif decide (x1 = nI 0 + 1 + 1 + 1 + 1 + 1) then (cI (m_TI_shelvesHeld μ) fun v14 μ13 => some (some (.int v14), μ13)) else (some (some (.int (-1 : Int32)), μ)))))))) := (semC_eq _).trans rfl
set_option maxRecDepth 10000 in
theorem e_TI_shelvesHeld  (μ : Mm) : m_TI_shelvesHeld μ = m_TI_shelvesHeld_4 (nI 0) (nI 0) μ := (semC_eq _).trans rfl
set_option maxRecDepth 10000 in
theorem e_TI_shelvesHeld_4 (x1 : Int32) (x2 : Int32) (μ : Mm) : m_TI_shelvesHeld_4 x1 x2 μ = bif decide (x2 < nI 4) then (gd (inb x2 4) (gd (isO (sub 265 x2.toNatClampNeg) 4 && (true && true)) (cI (m_Sh_holds (sub 265 x2.toNatClampNeg) μ) fun v2 μ1 => bif decide (v2 = nI 0) then (m_TI_shelvesHeld_4 x1 (x2 + (nI 1)) μ1) else (m_TI_shelvesHeld_4 (x1 + (nI 1)) (x2 + (nI 1)) μ1)))) else (some (some (.int x1), μ)) := (semC_eq _).trans rfl
set_option maxRecDepth 10000 in
theorem e_Mo_in_JJJ (x0 : Int64) (x2 : Int64) (x4 : Int64) (μ : Mm) : m_Mo_in_JJJ x0 x2 x4 μ = bif decide (lg_cmp x0 x2 < nI 0) then (gd (isb (nI 0)) (some (some (.int (nI 0)), μ))) else (bif decide (nI 0 < lg_cmp x0 x4) then (gd (isb (nI 0)) (some (some (.int (nI 0)), μ))) else (gd (isb (nI 1)) (some (some (.int (nI 1)), μ)))) := (semC_eq _).trans rfl
set_option maxRecDepth 10000 in
theorem e_Mo_in_II (x1 : Int32) (x2 : Int32) (μ : Mm) : m_Mo_in_II x1 x2 μ = cI (m_Mo_numberOf x1 μ) fun v2 μ1 => cI (m_Mo_numberOf x2 μ1) fun v4 μ3 => bif decide (v2 = (-1 : Int32)) then (some (some (.int (-1 : Int32)), μ3)) else (bif decide (v4 = (-1 : Int32)) then (some (some (.int (-1 : Int32)), μ3)) else (cI (m_Mo_isIn v2 v4 μ3) fun v6 μ5 => bif decide (v6 = nI 0) then (some (some (.int (nI 0)), μ5)) else (some (some (.int (nI 1)), μ5)))) := (semC_eq _).trans rfl
set_option maxRecDepth 10000 in
theorem e_Mo_grows (x1 : Int32) (x2 : Int32) (x3 : Int32) (x4 : Int32) (μ : Mm) : m_Mo_grows x1 x2 x3 x4 μ = bif decide (x1 = nI 0) then (gd (inb (μ.1 306 3) 19) (gd (inb ((sI μ 307 (μ.1 306 3).toNatClampNeg x3).1 306 3) 19) (m_Mo_grows_28 (pK 150 [.ref 306, .int x1, .int x2, .int x3, .int x4]) x3 (sI (sI μ 307 (μ.1 306 3).toNatClampNeg x3) 308 ((sI μ 307 (μ.1 306 3).toNatClampNeg x3).1 306 3).toNatClampNeg x4)))) else (bif decide (x1 < x2) then (m_Mo_grows_104 (pK 150 [.ref 306, .int x1, .int x2, .int x3, .int x4]) x1 x3 x4 x1 μ) else (m_Mo_grows_104 (pK 150 [.ref 306, .int x1, .int x2, .int x3, .int x4]) x1 x3 x4 x2 μ)) := (semC_eq _).trans rfl
set_option maxRecDepth 10000 in
theorem e_Mo_grows_28 (d : Nat) (x5 : Int32) (μ : Mm) : m_Mo_grows_28 d x5 μ = bif decide (nI 0 < x5) then (m_Mo_grows_36 d x5 (nI 1) μ) else (some (none, sI μ 306 3 ((μ.1 306 3) + (nI 1)))) := (semC_eq _).trans rfl
set_option maxRecDepth 10000 in
theorem e_Mo_grows_36 (d : Nat) (x5 : Int32) (x6 : Int32) (μ : Mm) : m_Mo_grows_36 d x5 x6 μ = gd (!decide (nI 10 = 0)) (bif decide (x5 - x5 / (nI 10) * (nI 10) < x6) then (gd (!decide (nI 10 = 0)) (m_Mo_grows_28 d (x5 / (nI 10)) μ)) else (gd (inb (((nI 7) * (μ.1 306 3)) + x6) 133) (gd (inb (((nI 7) * (μ.1 306 3)) + x6) 133) (m_Mo_grows_36 d x5 (x6 + (nI 1)) (sI μ 309 (((nI 7) * (μ.1 306 3)) + x6).toNatClampNeg ((μ.1 309 (((nI 7) * (μ.1 306 3)) + x6).toNatClampNeg) + (nI 1))))))) := (semC_eq _).trans rfl
set_option maxRecDepth 10000 in
theorem e_Mo_grows_104 (d : Nat) (x1 : Int32) (x3 : Int32) (x4 : Int32) (x5 : Int32) (μ : Mm) : m_Mo_grows_104 d x1 x3 x4 x5 μ = bif decide (nI 0 < x5) then (gd (Nat.ble (pK 150 [.ref 306, .int (x1 - x5), .int x5, .int (((nI 10) * x3) + x5), .int (x4 + x5)] + 1) d) (cV (m_Mo_grows (x1 - x5) x5 (((nI 10) * x3) + x5) (x4 + x5) μ) fun μ1 => m_Mo_grows_104 d x1 x3 x4 (x5 + (-1 : Int32)) μ1)) else (some (none, μ)) := (semC_eq _).trans rfl
set_option maxRecDepth 10000 in
theorem e_Mo_column (x1 : Int32) (x2 : Int32) (μ : Mm) : m_Mo_column x1 x2 μ = gd (inb (((nI 7) * x1) + x2) 133) (some (some (.int (μ.1 309 (((nI 7) * x1) + x2).toNatClampNeg)), μ)) := (semC_eq _).trans rfl
set_option maxRecDepth 10000 in
theorem e_Mo_numberOf (x1 : Int32) (μ : Mm) : m_Mo_numberOf x1 μ = m_Mo_numberOf_2 x1 (nI 0) μ := (semC_eq _).trans rfl
set_option maxRecDepth 10000 in
theorem e_Mo_numberOf_2 (x1 : Int32) (x2 : Int32) (μ : Mm) : m_Mo_numberOf_2 x1 x2 μ = bif decide (x2 < nI 19) then (gd (inb x2 19) (bif decide (μ.1 307 x2.toNatClampNeg = x1) then (some (some (.int x2), μ)) else (m_Mo_numberOf_2 x1 (x2 + (nI 1)) μ))) else (some (some (.int (-1 : Int32)), μ)) := (semC_eq _).trans rfl
set_option maxRecDepth 10000 in
theorem e_Mo_parts (x1 : Int32) (μ : Mm) : m_Mo_parts x1 μ = cI (m_Mo_column x1 (nI 1) μ) fun v2 μ1 => some (some (.int v2), μ1) := (semC_eq _).trans rfl
set_option maxRecDepth 10000 in
theorem e_Mo_heavy (x1 : Int32) (μ : Mm) : m_Mo_heavy x1 μ = m_Mo_heavy_4 x1 (nI 0) (nI 1) μ := (semC_eq _).trans rfl
set_option maxRecDepth 10000 in
theorem e_Mo_heavy_4 (x1 : Int32) (x2 : Int32) (x3 : Int32) (μ : Mm) : m_Mo_heavy_4 x1 x2 x3 μ = bif decide (nI 5 < x3) then (some (some (.int x2), μ)) else (cI (m_Mo_column x1 x3 μ) fun v2 μ1 => cI (m_Mo_column x1 x3 μ1) fun v4 μ3 => gd (!decide (nI 2 = 0)) (m_Mo_heavy_4 x1 (x2 + ((v2 * (v4 - (nI 1))) / (nI 2))) (x3 + (nI 1)) μ3)) := (semC_eq _).trans rfl
set_option maxRecDepth 10000 in
theorem e_Mo_kind (x1 : Int32) (μ : Mm) : m_Mo_kind x1 μ = cI (m_Mo_parts x1 μ) fun v2 μ1 => bif decide (v2 < nI 2) then (some (some (.int (nI 0)), μ1)) else (cI (m_Mo_column x1 (nI 2) μ1) fun v4 μ3 => bif decide (v4 = nI 0) then (some (some (.int (nI 1)), μ3)) else (some (some (.int (nI 2)), μ3))) := (semC_eq _).trans rfl
set_option maxRecDepth 10000 in
theorem e_Mo_isIn (x1 : Int32) (x2 : Int32) (μ : Mm) : m_Mo_isIn x1 x2 μ = m_Mo_isIn_2 x1 x2 (nI 1) μ := (semC_eq _).trans rfl
set_option maxRecDepth 10000 in
theorem e_Mo_isIn_2 (x1 : Int32) (x2 : Int32) (x3 : Int32) (μ : Mm) : m_Mo_isIn_2 x1 x2 x3 μ = bif decide (nI 5 < x3) then (gd (isb (nI 1)) (some (some (.int (nI 1)), μ))) else (cI (m_Mo_column x1 x3 μ) fun v2 μ1 => cI (m_Mo_column x2 x3 μ1) fun v4 μ3 => bif decide (v4 < v2) then (gd (isb (nI 0)) (some (some (.int (nI 0)), μ3))) else (m_Mo_isIn_2 x1 x2 (x3 + (nI 1)) μ3)) := (semC_eq _).trans rfl
set_option maxRecDepth 10000 in
theorem e_Mo_turned (x1 : Int32) (μ : Mm) : m_Mo_turned x1 μ = m_Mo_turned_4 x1 (nI 0) (nI 1) μ := (semC_eq _).trans rfl
set_option maxRecDepth 10000 in
theorem e_Mo_turned_4 (x1 : Int32) (x2 : Int32) (x3 : Int32) (μ : Mm) : m_Mo_turned_4 x1 x2 x3 μ = bif decide (nI 5 < x3) then (some (some (.int x2), μ)) else (cI (m_Mo_column x1 x3 μ) fun v2 μ1 => bif decide (nI 0 < v2) then (cI (m_Mo_column x1 x3 μ1) fun v4 μ3 => m_Mo_turned_4 x1 (((nI 10) * x2) + v4) (x3 + (nI 1)) μ3) else (some (some (.int x2), μ1))) := (semC_eq _).trans rfl
set_option maxRecDepth 10000 in
theorem e_Mo_type (x1 : Int32) (μ : Mm) : m_Mo_type x1 μ = cI (m_Mo_in_JJJ x1.toInt64 (lN 0) (lN 18) μ) fun v2 μ1 => bif decide (v2 = nI 0) then (some (some (.int (-1 : Int32)), μ1)) else (gd (inb x1 19) (some (some (.int (μ1.1 307 x1.toNatClampNeg)), μ1))) := (semC_eq _).trans rfl
set_option maxRecDepth 10000 in
theorem e_Mo_of (x1 : Int32) (x2 : Int32) (μ : Mm) : m_Mo_of x1 x2 μ = cI (m_Mo_numberOf x1 μ) fun v2 μ1 => bif decide (v2 = (-1 : Int32)) then (some (some (.int (-1 : Int32)), μ1)) else (cI (m_Mo_in_JJJ x2.toInt64 (lN 0) (lN 6) μ1) fun v4 μ3 => bif decide (v4 = nI 0) then (some (some (.int (-1 : Int32)), μ3)) else ((bif decide (x2 = nI 0) then (some (some (.int v2), μ3)) else (bif decide (x2 = nI 0 + 1) then (gd (inb v2 19) (some (some (.int (μ3.1 308 v2.toNatClampNeg)), μ3))) else (bif decide (x2 = nI 0 + 1 + 1) then (cI (m_Mo_parts v2 μ3) fun v8 μ7 => some (some (.int v8), μ7)) else (bif decide (x2 = nI 0 + 1 + 1 + 1) then (cI (m_Mo_heavy v2 μ3) fun v10 μ9 => some (some (.int v10), μ9)) else (bif decide (x2 = nI 0 + 1 + 1 + 1 + 1) then (cI (m_Mo_kind v2 μ3) fun v12 μ11 => some (some (.int v12), μ11)) else (bif decide (x2 = nI 0 + 1 + 1 + 1 + 1 + 1) then (m_Mo_of_98 v2 (nI 0) (nI 0) μ3) else (cI (m_Mo_turned v2 μ3) fun v6 μ5 => some (some (.int v6), μ5)))))))))) := (semC_eq _).trans rfl
set_option maxRecDepth 10000 in
theorem e_Mo_of_98 (x3 : Int32) (x4 : Int32) (x5 : Int32) (μ : Mm) : m_Mo_of_98 x3 x4 x5 μ = bif decide (x5 < nI 19) then (cI (m_Mo_isIn x5 x3 μ) fun v2 μ1 => bif decide (v2 = nI 0) then (m_Mo_of_98 x3 (x4 + (nI 0)) (x5 + (nI 1)) μ1) else (m_Mo_of_98 x3 (x4 + (nI 1)) (x5 + (nI 1)) μ1)) else (some (some (.int x4), μ)) := (semC_eq _).trans rfl
set_option maxRecDepth 10000 in
theorem e_Mo_degree (x0 : Nat) (x1 : Int32) (μ : Mm) : m_Mo_degree x0 x1 μ = m_Mo_degree_3 x0 x1 (nI 30) μ := (semC_eq _).trans rfl
set_option maxRecDepth 10000 in
theorem e_Mo_degree_3 (x0 : Nat) (x1 : Int32) (x2 : Int32) (μ : Mm) : m_Mo_degree_3 x0 x1 x2 μ = bif decide (x2 < nI 0) then (bif decide (x2 < nI 0) then (some (some (.int (-5 : Int32)), μ)) else (some (some (.int x2), μ))) else (gd (inb (x1 + x2) (lnL x0)) (bif decide (lg_cmp (μ.2 x0 (x1 + x2).toNatClampNeg) (lN 0) = nI 0) then (m_Mo_degree_3 x0 x1 (x2 + (-1 : Int32)) μ) else (bif decide (x2 < nI 0) then (some (some (.int (-5 : Int32)), μ)) else (some (some (.int x2), μ))))) := (semC_eq _).trans rfl
set_option maxRecDepth 10000 in
theorem e_Mo_part (x0 : Nat) (x1 : Int32) (x2 : Int32) (μ : Mm) : m_Mo_part x0 x1 x2 μ = bif decide (x2 = (-1 : Int32)) then (cI (m_Mo_degree x0 x1 μ) fun v2 μ1 => some (some (.long v2.toInt64), μ1)) else (gd (inb (x1 + x2) (lnL x0)) (some (some (.long (μ.2 x0 (x1 + x2).toNatClampNeg)), μ))) := (semC_eq _).trans rfl
set_option maxRecDepth 10000 in
theorem e_Mo_isPart (x0 : Int32) (μ : Mm) : m_Mo_isPart x0 μ = cI (m_Mo_in_JJJ x0.toInt64 (-1 : Int64) (lN 30) μ) fun v2 μ1 => gd (isb v2) (some (some (.int v2), μ1)) := (semC_eq _).trans rfl
set_option maxRecDepth 10000 in
theorem e_Mo_rests  (μ : Mm) : m_Mo_rests μ = m_Mo_rests_2 (nI 0) μ := (semC_eq _).trans rfl
set_option maxRecDepth 10000 in
theorem e_Mo_rests_2 (x1 : Int32) (μ : Mm) : m_Mo_rests_2 x1 μ = bif decide (nI 5 < x1) then (some (none, μ)) else (gd (inb ((nI 186) * x1) 1116) (m_Mo_rests_20 x1 (nI 1) (sL μ 312 ((nI 186) * x1).toNatClampNeg (lN 1)))) := (semC_eq _).trans rfl
set_option maxRecDepth 10000 in
theorem e_Mo_rests_20 (x1 : Int32) (x2 : Int32) (μ : Mm) : m_Mo_rests_20 x1 x2 μ = bif decide (x1 < x2) then (m_Mo_rests_2 (x1 + (nI 1)) μ) else (m_Mo_rests_27 x1 x2 (nI 0) μ) := (semC_eq _).trans rfl
set_option maxRecDepth 10000 in
theorem e_Mo_rests_27 (x1 : Int32) (x2 : Int32) (x3 : Int32) (μ : Mm) : m_Mo_rests_27 x1 x2 x3 μ = bif decide (x3 < nI 31) then (gd (inb ((((((nI 6) * (x1 - (nI 1))) + x2) - (nI 1)) * (nI 31)) + x3) 1116) (bif decide (x3 < x2) then (gd (inb (((((nI 6) * x1) + x2) * (nI 31)) + x3) 1116) (m_Mo_rests_27 x1 x2 (x3 + (nI 1)) (sL μ 312 (((((nI 6) * x1) + x2) * (nI 31)) + x3).toNatClampNeg ((μ.2 312 ((((((nI 6) * (x1 - (nI 1))) + x2) - (nI 1)) * (nI 31)) + x3).toNatClampNeg) + (lN 0))))) else (gd (inb ((((((nI 6) * (x1 - (nI 1))) + x2) * (nI 31)) + x3) - x2) 1116) (gd (inb (((((nI 6) * x1) + x2) * (nI 31)) + x3) 1116) (m_Mo_rests_27 x1 x2 (x3 + (nI 1)) (sL μ 312 (((((nI 6) * x1) + x2) * (nI 31)) + x3).toNatClampNeg ((μ.2 312 ((((((nI 6) * (x1 - (nI 1))) + x2) - (nI 1)) * (nI 31)) + x3).toNatClampNeg) + (μ.2 312 ((((((nI 6) * (x1 - (nI 1))) + x2) * (nI 31)) + x3) - x2).toNatClampNeg)))))))) else (m_Mo_rests_20 x1 (x2 + (nI 1)) μ) := (semC_eq _).trans rfl
set_option maxRecDepth 10000 in
theorem e_Mo_ones (x0 : Nat) (μ : Mm) : m_Mo_ones x0 μ = m_Mo_ones_2 x0 (nI 0) μ := (semC_eq _).trans rfl
set_option maxRecDepth 10000 in
theorem e_Mo_ones_2 (x0 : Nat) (x1 : Int32) (μ : Mm) : m_Mo_ones_2 x0 x1 μ = bif decide (x1 < nI 31) then (bif decide (x1 = nI 0) then (gd (inb x1 (lnL x0)) (m_Mo_ones_2 x0 (x1 + (nI 1)) (sL μ x0 x1.toNatClampNeg (lN 1)))) else (gd (inb x1 (lnL x0)) (m_Mo_ones_2 x0 (x1 + (nI 1)) (sL μ x0 x1.toNatClampNeg (lN 0))))) else (some (none, μ)) := (semC_eq _).trans rfl
set_option maxRecDepth 10000 in
theorem e_Mo_timesChoices (x1 : Int32) (x2 : Int32) (μ : Mm) : m_Mo_timesChoices x1 x2 μ = m_Mo_timesChoices_2 x1 x2 (nI 0) μ := (semC_eq _).trans rfl
set_option maxRecDepth 10000 in
theorem e_Mo_timesChoices_2 (x1 : Int32) (x2 : Int32) (x3 : Int32) (μ : Mm) : m_Mo_timesChoices_2 x1 x2 x3 μ = bif decide (x3 < nI 31) then (gd (inb x3 31) (m_Mo_timesChoices_2 x1 x2 (x3 + (nI 1)) (sL μ 311 x3.toNatClampNeg (lN 0)))) else (m_Mo_timesChoices_23 x1 x2 (nI 0) μ) := (semC_eq _).trans rfl
set_option maxRecDepth 10000 in
theorem e_Mo_timesChoices_23 (x1 : Int32) (x2 : Int32) (x3 : Int32) (μ : Mm) : m_Mo_timesChoices_23 x1 x2 x3 μ = bif decide (x3 < nI 31) then (m_Mo_timesChoices_32 x1 x2 x3 (nI 0) μ) else (m_Mo_timesChoices_115 (nI 0) μ) := (semC_eq _).trans rfl
set_option maxRecDepth 10000 in
theorem e_Mo_timesChoices_32 (x1 : Int32) (x2 : Int32) (x3 : Int32) (x4 : Int32) (μ : Mm) : m_Mo_timesChoices_32 x1 x2 x3 x4 μ = bif decide (x4 + x3 < nI 31) then (gd (inb x3 31) (bif decide (lg_cmp (μ.2 310 x3.toNatClampNeg) (lN 0) = nI 0) then (m_Mo_timesChoices_23 x1 x2 (x3 + (nI 1)) μ) else (gd (inb (x3 + x4) 31) (gd (inb x3 31) (bif decide (x2 < nI 0) then (gd (inb (x3 + x4) 31) (m_Mo_timesChoices_32 x1 x2 x3 (x4 + (nI 1)) (sL μ 311 (x3 + x4).toNatClampNeg ((μ.2 311 (x3 + x4).toNatClampNeg) + ((μ.2 310 x3.toNatClampNeg) * (lN 0)))))) else (bif decide (x1 < x2) then (gd (inb (x3 + x4) 31) (m_Mo_timesChoices_32 x1 x2 x3 (x4 + (nI 1)) (sL μ 311 (x3 + x4).toNatClampNeg ((μ.2 311 (x3 + x4).toNatClampNeg) + ((μ.2 310 x3.toNatClampNeg) * (lN 0)))))) else (gd (inb (((((nI 6) * x1) + x2) * (nI 31)) + x4) 1116) (gd (inb (x3 + x4) 31) (m_Mo_timesChoices_32 x1 x2 x3 (x4 + (nI 1)) (sL μ 311 (x3 + x4).toNatClampNeg ((μ.2 311 (x3 + x4).toNatClampNeg) + ((μ.2 310 x3.toNatClampNeg) * (μ.2 312 (((((nI 6) * x1) + x2) * (nI 31)) + x4).toNatClampNeg))))))))))))) else (m_Mo_timesChoices_23 x1 x2 (x3 + (nI 1)) μ) := (semC_eq _).trans rfl
set_option maxRecDepth 10000 in
theorem e_Mo_timesChoices_115 (x3 : Int32) (μ : Mm) : m_Mo_timesChoices_115 x3 μ = bif decide (x3 < nI 31) then (gd (inb x3 31) (gd (inb x3 31) (m_Mo_timesChoices_115 (x3 + (nI 1)) (sL μ 310 x3.toNatClampNeg (μ.2 311 x3.toNatClampNeg))))) else (some (none, μ)) := (semC_eq _).trans rfl
set_option maxRecDepth 10000 in
theorem e_Mo_shifts (x1 : Int32) (μ : Mm) : m_Mo_shifts x1 μ = m_Mo_shifts_3 x1 (nI 30) μ := (semC_eq _).trans rfl
set_option maxRecDepth 10000 in
theorem e_Mo_shifts_3 (x1 : Int32) (x2 : Int32) (μ : Mm) : m_Mo_shifts_3 x1 x2 μ = bif decide (x2 < nI 0) then (some (none, μ)) else (bif decide (x2 < x1) then (gd (inb x2 31) (m_Mo_shifts_3 x1 (x2 + (-1 : Int32)) (sL μ 310 x2.toNatClampNeg (lN 0)))) else (gd (inb (x2 - x1) 31) (gd (inb x2 31) (m_Mo_shifts_3 x1 (x2 + (-1 : Int32)) (sL μ 310 x2.toNatClampNeg (μ.2 310 (x2 - x1).toNatClampNeg)))))) := (semC_eq _).trans rfl
set_option maxRecDepth 10000 in
theorem e_Mo_choices (x1 : Int32) (x2 : Int32) (x3 : Int32) (μ : Mm) : m_Mo_choices x1 x2 x3 μ = cI (m_Mo_in_JJJ x1.toInt64 (lN 0) (lN 5) μ) fun v2 μ1 => bif decide (v2 = nI 0) then (some (some (.long (-9223372036854775808 : Int64)), μ1)) else (cI (m_Mo_in_JJJ x2.toInt64 (lN 0) (lN 5) μ1) fun v4 μ3 => bif decide (v4 = nI 0) then (some (some (.long (-9223372036854775808 : Int64)), μ3)) else (cI (m_Mo_isPart x3 μ3) fun v6 μ5 => bif decide (v6 = nI 0) then (some (some (.long (-9223372036854775808 : Int64)), μ5)) else (cV (m_Mo_ones 310 μ5) fun μ7 => cV (m_Mo_timesChoices x1 x2 μ7) fun μ8 => cJ (m_Mo_part 310 (nI 0) x3 μ8) fun v10 μ9 => some (some (.long v10), μ9)))) := (semC_eq _).trans rfl
set_option maxRecDepth 10000 in
theorem e_Mo_makesSubgroups (x1 : Int32) (x2 : Int32) (μ : Mm) : m_Mo_makesSubgroups x1 x2 μ = cV (m_Mo_ones 310 μ) fun μ1 => cI (m_Mo_isIn x2 x1 μ1) fun v3 μ2 => bif decide (v3 = nI 0) then (gd (inb (nI 0) 31) (some (none, sL μ2 310 (nI 0).toNatClampNeg (lN 0)))) else (m_Mo_makesSubgroups_26 x1 x2 (nI 1) μ2) := (semC_eq _).trans rfl
set_option maxRecDepth 10000 in
theorem e_Mo_makesSubgroups_26 (x1 : Int32) (x2 : Int32) (x3 : Int32) (μ : Mm) : m_Mo_makesSubgroups_26 x1 x2 x3 μ = bif decide (nI 5 < x3) then (some (none, μ)) else (cI (m_Mo_column x2 (x3 + (nI 1)) μ) fun v2 μ1 => cI (m_Mo_column x1 x3 μ1) fun v4 μ3 => cI (m_Mo_column x2 x3 μ3) fun v6 μ5 => cV (m_Mo_timesChoices (v4 - v2) (v6 - v2) μ5) fun μ7 => cI (m_Mo_column x1 x3 μ7) fun v9 μ8 => cI (m_Mo_column x2 x3 μ8) fun v11 μ10 => cV (m_Mo_shifts (v2 * (v9 - v11)) μ10) fun μ12 => m_Mo_makesSubgroups_26 x1 x2 (x3 + (nI 1)) μ12) := (semC_eq _).trans rfl
set_option maxRecDepth 10000 in
theorem e_Mo_subgroups (x1 : Int32) (x2 : Int32) (x3 : Int32) (μ : Mm) : m_Mo_subgroups x1 x2 x3 μ = cI (m_Mo_numberOf x1 μ) fun v2 μ1 => cI (m_Mo_numberOf x2 μ1) fun v4 μ3 => bif decide (v2 = (-1 : Int32)) then (some (some (.long (-9223372036854775808 : Int64)), μ3)) else (bif decide (v4 = (-1 : Int32)) then (some (some (.long (-9223372036854775808 : Int64)), μ3)) else (cI (m_Mo_isPart x3 μ3) fun v6 μ5 => bif decide (v6 = nI 0) then (some (some (.long (-9223372036854775808 : Int64)), μ5)) else (cV (m_Mo_makesSubgroups v2 v4 μ5) fun μ7 => cJ (m_Mo_part 310 (nI 0) x3 μ7) fun v9 μ8 => some (some (.long v9), μ8)))) := (semC_eq _).trans rfl
set_option maxRecDepth 10000 in
theorem e_Mo_strip (x1 : Int32) (x2 : Int32) (μ : Mm) : m_Mo_strip x1 x2 μ = m_Mo_strip_5 x1 x2 (nI 0) (nI 1) μ := (semC_eq _).trans rfl
set_option maxRecDepth 10000 in
theorem e_Mo_strip_5 (x1 : Int32) (x2 : Int32) (x3 : Int32) (x4 : Int32) (μ : Mm) : m_Mo_strip_5 x1 x2 x3 x4 μ = bif decide (nI 5 < x4) then (some (some (.int x3), μ)) else (cI (m_Mo_column x1 x4 μ) fun v2 μ1 => cI (m_Mo_column x2 x4 μ1) fun v4 μ3 => bif decide (v2 - v4 < nI 0) then (some (some (.int (-1 : Int32)), μ3)) else (cI (m_Mo_column x1 x4 μ3) fun v6 μ5 => cI (m_Mo_column x1 (x4 + (nI 1)) μ5) fun v8 μ7 => bif decide (v6 - v8 < v2 - v4) then (some (some (.int (-1 : Int32)), μ7)) else (m_Mo_strip_5 x1 x2 (x3 + (v2 - v4)) (x4 + (nI 1)) μ7))) := (semC_eq _).trans rfl
set_option maxRecDepth 10000 in
theorem e_Mo_makesStrip (x1 : Int32) (x2 : Int32) (x3 : Int32) (μ : Mm) : m_Mo_makesStrip x1 x2 x3 μ = cV (m_Mo_ones 310 μ) fun μ1 => cI (m_Mo_heavy x1 μ1) fun v3 μ2 => cI (m_Mo_heavy x2 μ2) fun v5 μ4 => gd (!decide (nI 2 = 0)) (m_Mo_makesStrip_31 x1 x2 ((v3 - v5) - ((x3 * (x3 - (nI 1))) / (nI 2))) (nI 1) μ4) := (semC_eq _).trans rfl
set_option maxRecDepth 10000 in
theorem e_Mo_makesStrip_31 (x1 : Int32) (x2 : Int32) (x4 : Int32) (x5 : Int32) (μ : Mm) : m_Mo_makesStrip_31 x1 x2 x4 x5 μ = bif decide (nI 5 < x5) then (cV (m_Mo_shifts x4 μ) fun μ1 => some (none, μ1)) else (cI (m_Mo_column x1 x5 μ) fun v3 μ2 => cI (m_Mo_column x1 (x5 + (nI 1)) μ2) fun v5 μ4 => cI (m_Mo_column x1 x5 μ4) fun v7 μ6 => cI (m_Mo_column x2 x5 μ6) fun v9 μ8 => cV (m_Mo_timesChoices (v3 - v5) (v7 - v9) μ8) fun μ10 => m_Mo_makesStrip_31 x1 x2 (x4 - ((v7 - v9) * ((v3 - v5) - (v7 - v9)))) (x5 + (nI 1)) μ10) := (semC_eq _).trans rfl
set_option maxRecDepth 10000 in
theorem e_Mo_timesOnes (x1 : Int32) (μ : Mm) : m_Mo_timesOnes x1 μ = m_Mo_timesOnes_2 x1 (nI 0) μ := (semC_eq _).trans rfl
set_option maxRecDepth 10000 in
theorem e_Mo_timesOnes_2 (x1 : Int32) (x2 : Int32) (μ : Mm) : m_Mo_timesOnes_2 x1 x2 μ = bif decide (x2 < nI 589) then (gd (inb x2 589) (m_Mo_timesOnes_2 x1 (x2 + (nI 1)) (sL μ 315 x2.toNatClampNeg (lN 0)))) else (m_Mo_timesOnes_24 x1 (nI 0) μ) := (semC_eq _).trans rfl
set_option maxRecDepth 10000 in
theorem e_Mo_timesOnes_24 (x1 : Int32) (x2 : Int32) (μ : Mm) : m_Mo_timesOnes_24 x1 x2 μ = bif decide (x2 < nI 19) then (cI (m_Mo_degree 314 (x2 * (nI 31)) μ) fun v2 μ1 => bif decide (v2 = (-5 : Int32)) then (m_Mo_timesOnes_24 x1 (x2 + (nI 1)) μ1) else (m_Mo_timesOnes_51 x1 x2 (nI 0) μ1)) else (m_Mo_timesOnes_176 (nI 0) μ) := (semC_eq _).trans rfl
set_option maxRecDepth 10000 in
theorem e_Mo_timesOnes_51 (x1 : Int32) (x2 : Int32) (x3 : Int32) (μ : Mm) : m_Mo_timesOnes_51 x1 x2 x3 μ = bif decide (x3 < nI 19) then (cI (m_Mo_strip x3 x2 μ) fun v2 μ1 => bif decide (v2 = x1) then (cV (m_Mo_makesStrip x3 x2 x1 μ1) fun μ3 => m_Mo_timesOnes_80 x1 x2 x3 (nI 0) μ3) else (m_Mo_timesOnes_51 x1 x2 (x3 + (nI 1)) μ1)) else (m_Mo_timesOnes_24 x1 (x2 + (nI 1)) μ) := (semC_eq _).trans rfl
set_option maxRecDepth 10000 in
theorem e_Mo_timesOnes_80 (x1 : Int32) (x2 : Int32) (x3 : Int32) (x4 : Int32) (μ : Mm) : m_Mo_timesOnes_80 x1 x2 x3 x4 μ = bif decide (x4 < nI 31) then (m_Mo_timesOnes_90 x1 x2 x3 x4 (nI 0) μ) else (m_Mo_timesOnes_51 x1 x2 (x3 + (nI 1)) μ) := (semC_eq _).trans rfl
set_option maxRecDepth 10000 in
theorem e_Mo_timesOnes_90 (x1 : Int32) (x2 : Int32) (x3 : Int32) (x4 : Int32) (x5 : Int32) (μ : Mm) : m_Mo_timesOnes_90 x1 x2 x3 x4 x5 μ = bif decide (x4 + x5 < nI 31) then (gd (inb x4 31) (bif decide (lg_cmp (μ.2 310 x4.toNatClampNeg) (lN 0) = nI 0) then (m_Mo_timesOnes_80 x1 x2 x3 (x4 + (nI 1)) μ) else (gd (inb (((x3 * (nI 31)) + x4) + x5) 589) (gd (inb x4 31) (gd (inb ((x2 * (nI 31)) + x5) 589) (gd (inb (((x3 * (nI 31)) + x4) + x5) 589) (m_Mo_timesOnes_90 x1 x2 x3 x4 (x5 + (nI 1)) (sL μ 315 (((x3 * (nI 31)) + x4) + x5).toNatClampNeg ((μ.2 315 (((x3 * (nI 31)) + x4) + x5).toNatClampNeg) + ((μ.2 310 x4.toNatClampNeg) * (μ.2 314 ((x2 * (nI 31)) + x5).toNatClampNeg))))))))))) else (m_Mo_timesOnes_80 x1 x2 x3 (x4 + (nI 1)) μ) := (semC_eq _).trans rfl
set_option maxRecDepth 10000 in
theorem e_Mo_timesOnes_176 (x2 : Int32) (μ : Mm) : m_Mo_timesOnes_176 x2 μ = bif decide (x2 < nI 589) then (gd (inb x2 589) (gd (inb x2 589) (m_Mo_timesOnes_176 (x2 + (nI 1)) (sL μ 314 x2.toNatClampNeg (μ.2 315 x2.toNatClampNeg))))) else (some (none, μ)) := (semC_eq _).trans rfl
set_option maxRecDepth 10000 in
theorem e_Mo_timesColumns (x1 : Int32) (x2 : Int32) (μ : Mm) : m_Mo_timesColumns x1 x2 μ = m_Mo_timesColumns_2 x1 x2 (nI 0) μ := (semC_eq _).trans rfl
set_option maxRecDepth 10000 in
theorem e_Mo_timesColumns_2 (x1 : Int32) (x2 : Int32) (x3 : Int32) (μ : Mm) : m_Mo_timesColumns_2 x1 x2 x3 μ = bif decide (x3 < nI 589) then (gd (inb x3 589) (m_Mo_timesColumns_2 x1 x2 (x3 + (nI 1)) (sL μ 314 x3.toNatClampNeg (lN 0)))) else (gd (inb (x1 * (nI 31)) 589) (m_Mo_timesColumns_34 x2 (nI 1) (sL μ 314 (x1 * (nI 31)).toNatClampNeg (lN 1)))) := (semC_eq _).trans rfl
set_option maxRecDepth 10000 in
theorem e_Mo_timesColumns_34 (x2 : Int32) (x3 : Int32) (μ : Mm) : m_Mo_timesColumns_34 x2 x3 μ = bif decide (nI 5 < x3) then (some (none, μ)) else (cI (m_Mo_column x2 x3 μ) fun v2 μ1 => bif decide (nI 0 < v2) then (cI (m_Mo_column x2 x3 μ1) fun v4 μ3 => cV (m_Mo_timesOnes v4 μ3) fun μ5 => m_Mo_timesColumns_34 x2 (x3 + (nI 1)) μ5) else (some (none, μ1))) := (semC_eq _).trans rfl
set_option maxRecDepth 10000 in
theorem e_Mo_multiplies (x1 : Int32) (μ : Mm) : m_Mo_multiplies x1 μ = bif decide (μ.1 306 11 = x1) then (some (none, μ)) else (m_Mo_multiplies_16 x1 (nI 0) (sI μ 306 11 x1)) := (semC_eq _).trans rfl
set_option maxRecDepth 10000 in
theorem e_Mo_multiplies_16 (x1 : Int32) (x2 : Int32) (μ : Mm) : m_Mo_multiplies_16 x1 x2 μ = bif decide (x2 < nI 11191) then (gd (inb x2 11191) (m_Mo_multiplies_16 x1 (x2 + (nI 1)) (sL μ 313 x2.toNatClampNeg (lN 0)))) else (m_Mo_multiplies_39 x1 (nI 18) μ) := (semC_eq _).trans rfl
set_option maxRecDepth 10000 in
theorem e_Mo_multiplies_39 (x1 : Int32) (x2 : Int32) (μ : Mm) : m_Mo_multiplies_39 x1 x2 μ = bif decide (x2 < nI 0) then (some (none, μ)) else (gd (inb x1 19) (gd (inb x2 19) (bif decide (nI 5 < (μ.1 308 x1.toNatClampNeg) + (μ.1 308 x2.toNatClampNeg)) then (m_Mo_multiplies_39 x1 (x2 + (-1 : Int32)) μ) else (cV (m_Mo_timesColumns (nI 0) x2 μ) fun μ1 => m_Mo_multiplies_71 x1 x2 (nI 0) μ1)))) := (semC_eq _).trans rfl
set_option maxRecDepth 10000 in
theorem e_Mo_multiplies_71 (x1 : Int32) (x2 : Int32) (x3 : Int32) (μ : Mm) : m_Mo_multiplies_71 x1 x2 x3 μ = bif decide (x3 < nI 589) then (gd (inb x3 589) (gd (inb x3 589) (m_Mo_multiplies_71 x1 x2 (x3 + (nI 1)) (sL μ 316 x3.toNatClampNeg (μ.2 314 x3.toNatClampNeg))))) else (cV (m_Mo_timesColumns x1 x2 μ) fun μ1 => m_Mo_multiplies_106 x1 x2 (x2 + (nI 1)) μ1) := (semC_eq _).trans rfl
set_option maxRecDepth 10000 in
theorem e_Mo_multiplies_106 (x1 : Int32) (x2 : Int32) (x3 : Int32) (μ : Mm) : m_Mo_multiplies_106 x1 x2 x3 μ = bif decide (x3 < nI 19) then (gd (inb x3 19) (gd (inb x2 19) (bif decide (μ.1 308 x3.toNatClampNeg = μ.1 308 x2.toNatClampNeg) then (cI (m_Mo_degree 316 (x3 * (nI 31)) μ) fun v2 μ1 => bif decide (v2 = (-5 : Int32)) then (m_Mo_multiplies_106 x1 x2 (x3 + (nI 1)) μ1) else (m_Mo_multiplies_149 x1 x2 x3 (nI 0) μ1)) else (m_Mo_multiplies_106 x1 x2 (x3 + (nI 1)) μ)))) else (m_Mo_multiplies_177 x1 x2 (nI 0) μ) := (semC_eq _).trans rfl
set_option maxRecDepth 10000 in
theorem e_Mo_multiplies_149 (x1 : Int32) (x2 : Int32) (x3 : Int32) (x4 : Int32) (μ : Mm) : m_Mo_multiplies_149 x1 x2 x3 x4 μ = bif decide (x4 < nI 19) then (cV (m_Mo_takesOff x3 x4 μ) fun μ1 => m_Mo_multiplies_149 x1 x2 x3 (x4 + (nI 1)) μ1) else (m_Mo_multiplies_106 x1 x2 (x3 + (nI 1)) μ) := (semC_eq _).trans rfl
set_option maxRecDepth 10000 in
theorem e_Mo_multiplies_177 (x1 : Int32) (x2 : Int32) (x3 : Int32) (μ : Mm) : m_Mo_multiplies_177 x1 x2 x3 μ = bif decide (x3 < nI 589) then (gd (inb x3 589) (gd (inb (((x2 * (nI 19)) * (nI 31)) + x3) 11191) (m_Mo_multiplies_177 x1 x2 (x3 + (nI 1)) (sL μ 313 (((x2 * (nI 19)) * (nI 31)) + x3).toNatClampNeg (μ.2 314 x3.toNatClampNeg))))) else (m_Mo_multiplies_39 x1 (x2 + (-1 : Int32)) μ) := (semC_eq _).trans rfl
set_option maxRecDepth 10000 in
theorem e_Mo_takesOff (x1 : Int32) (x2 : Int32) (μ : Mm) : m_Mo_takesOff x1 x2 μ = m_Mo_takesOff_13 x1 x2 (((x1 * (nI 19)) + x2) * (nI 31)) (nI 0) μ := (semC_eq _).trans rfl
set_option maxRecDepth 10000 in
theorem e_Mo_takesOff_13 (x1 : Int32) (x2 : Int32) (x3 : Int32) (x4 : Int32) (μ : Mm) : m_Mo_takesOff_13 x1 x2 x3 x4 μ = bif decide (x4 < nI 31) then (gd (inb ((x1 * (nI 31)) + x4) 589) (m_Mo_takesOff_37 x1 x2 x3 x4 (μ.2 316 ((x1 * (nI 31)) + x4).toNatClampNeg) (nI 0) μ)) else (some (none, μ)) := (semC_eq _).trans rfl
set_option maxRecDepth 10000 in
theorem e_Mo_takesOff_37 (x1 : Int32) (x2 : Int32) (x3 : Int32) (x4 : Int32) (x5 : Int64) (x7 : Int32) (μ : Mm) : m_Mo_takesOff_37 x1 x2 x3 x4 x5 x7 μ = bif decide (x4 + x7 < nI 31) then (bif decide (lg_cmp x5 (lN 0) = nI 0) then (m_Mo_takesOff_13 x1 x2 x3 (x4 + (nI 1)) μ) else (gd (inb (((x2 * (nI 31)) + x4) + x7) 589) (gd (inb (x3 + x7) 11191) (gd (inb (((x2 * (nI 31)) + x4) + x7) 589) (m_Mo_takesOff_37 x1 x2 x3 x4 x5 (x7 + (nI 1)) (sL μ 314 (((x2 * (nI 31)) + x4) + x7).toNatClampNeg ((μ.2 314 (((x2 * (nI 31)) + x4) + x7).toNatClampNeg) - (x5 * (μ.2 313 (x3 + x7).toNatClampNeg))))))))) else (m_Mo_takesOff_13 x1 x2 x3 (x4 + (nI 1)) μ) := (semC_eq _).trans rfl
set_option maxRecDepth 10000 in
theorem e_Mo_hall (x1 : Int32) (x2 : Int32) (x3 : Int32) (x4 : Int32) (μ : Mm) : m_Mo_hall x1 x2 x3 x4 μ = cI (m_Mo_numberOf x1 μ) fun v2 μ1 => cI (m_Mo_numberOf x2 μ1) fun v4 μ3 => cI (m_Mo_numberOf x3 μ3) fun v6 μ5 => bif decide (v2 = (-1 : Int32)) then (some (some (.long (-9223372036854775808 : Int64)), μ5)) else (bif decide (v4 = (-1 : Int32)) then (some (some (.long (-9223372036854775808 : Int64)), μ5)) else (bif decide (v6 = (-1 : Int32)) then (some (some (.long (-9223372036854775808 : Int64)), μ5)) else (cI (m_Mo_isPart x4 μ5) fun v8 μ7 => bif decide (v8 = nI 0) then (some (some (.long (-9223372036854775808 : Int64)), μ7)) else (gd (inb v4 19) (gd (inb v6 19) (gd (inb v2 19) (bif decide ((μ7.1 308 v4.toNatClampNeg) + (μ7.1 308 v6.toNatClampNeg) = μ7.1 308 v2.toNatClampNeg) then (cV (m_Mo_multiplies v4 μ7) fun μ9 => cJ (m_Mo_part 313 (((v6 * (nI 19)) + v2) * (nI 31)) x4 μ9) fun v11 μ10 => some (some (.long v11), μ10)) else (bif decide (x4 = (-1 : Int32)) then (some (some (.long (-5 : Int64)), μ7)) else (some (some (.long (lN 0)), μ7)))))))))) := (semC_eq _).trans rfl
set_option maxRecDepth 10000 in
theorem e_Mo_makesAll (x1 : Int32) (μ : Mm) : m_Mo_makesAll x1 μ = m_Mo_makesAll_2 x1 (nI 0) μ := (semC_eq _).trans rfl
set_option maxRecDepth 10000 in
theorem e_Mo_makesAll_2 (x1 : Int32) (x2 : Int32) (μ : Mm) : m_Mo_makesAll_2 x1 x2 μ = bif decide (x2 < nI 31) then (gd (inb x2 31) (m_Mo_makesAll_2 x1 (x2 + (nI 1)) (sL μ 317 x2.toNatClampNeg (lN 0)))) else (m_Mo_makesAll_23 x1 (nI 0) μ) := (semC_eq _).trans rfl
set_option maxRecDepth 10000 in
theorem e_Mo_makesAll_23 (x1 : Int32) (x2 : Int32) (μ : Mm) : m_Mo_makesAll_23 x1 x2 μ = bif decide (x2 < nI 19) then (cV (m_Mo_makesSubgroups x1 x2 μ) fun μ1 => m_Mo_makesAll_37 x1 x2 (nI 0) μ1) else (m_Mo_makesAll_72 (nI 0) μ) := (semC_eq _).trans rfl
set_option maxRecDepth 10000 in
theorem e_Mo_makesAll_37 (x1 : Int32) (x2 : Int32) (x3 : Int32) (μ : Mm) : m_Mo_makesAll_37 x1 x2 x3 μ = bif decide (x3 < nI 31) then (gd (inb x3 31) (gd (inb x3 31) (gd (inb x3 31) (m_Mo_makesAll_37 x1 x2 (x3 + (nI 1)) (sL μ 317 x3.toNatClampNeg ((μ.2 317 x3.toNatClampNeg) + (μ.2 310 x3.toNatClampNeg))))))) else (m_Mo_makesAll_23 x1 (x2 + (nI 1)) μ) := (semC_eq _).trans rfl
set_option maxRecDepth 10000 in
theorem e_Mo_makesAll_72 (x2 : Int32) (μ : Mm) : m_Mo_makesAll_72 x2 μ = bif decide (x2 < nI 31) then (gd (inb x2 31) (gd (inb x2 31) (m_Mo_makesAll_72 (x2 + (nI 1)) (sL μ 310 x2.toNatClampNeg (μ.2 317 x2.toNatClampNeg))))) else (some (none, μ)) := (semC_eq _).trans rfl
set_option maxRecDepth 10000 in
theorem e_Mo_timesLess (x1 : Int32) (μ : Mm) : m_Mo_timesLess x1 μ = m_Mo_timesLess_3 x1 (nI 30) μ := (semC_eq _).trans rfl
set_option maxRecDepth 10000 in
theorem e_Mo_timesLess_3 (x1 : Int32) (x2 : Int32) (μ : Mm) : m_Mo_timesLess_3 x1 x2 μ = bif decide (x2 < nI 0) then (some (none, μ)) else (bif decide (x2 < x1) then (gd (inb x2 31) (gd (inb x2 31) (m_Mo_timesLess_3 x1 (x2 + (-1 : Int32)) (sL μ 310 x2.toNatClampNeg ((lN 0) - (μ.2 310 x2.toNatClampNeg)))))) else (gd (inb (x2 - x1) 31) (gd (inb x2 31) (gd (inb x2 31) (m_Mo_timesLess_3 x1 (x2 + (-1 : Int32)) (sL μ 310 x2.toNatClampNeg ((μ.2 310 (x2 - x1).toNatClampNeg) - (μ.2 310 x2.toNatClampNeg)))))))) := (semC_eq _).trans rfl
set_option maxRecDepth 10000 in
theorem e_Mo_makesTurns (x1 : Int32) (μ : Mm) : m_Mo_makesTurns x1 μ = cV (m_Mo_ones 310 μ) fun μ1 => m_Mo_makesTurns_11 x1 (nI 0) (nI 1) μ1 := (semC_eq _).trans rfl
set_option maxRecDepth 10000 in
theorem e_Mo_makesTurns_11 (x1 : Int32) (x2 : Int32) (x3 : Int32) (μ : Mm) : m_Mo_makesTurns_11 x1 x2 x3 μ = bif decide (nI 5 < x3) then (cV (m_Mo_shifts x2 μ) fun μ1 => some (none, μ1)) else (cI (m_Mo_column x1 x3 μ) fun v3 μ2 => m_Mo_makesTurns_35 x1 (x2 + (v3 * v3)) x3 v3 (nI 1) μ2) := (semC_eq _).trans rfl
set_option maxRecDepth 10000 in
theorem e_Mo_makesTurns_35 (x1 : Int32) (x2 : Int32) (x3 : Int32) (x4 : Int32) (x5 : Int32) (μ : Mm) : m_Mo_makesTurns_35 x1 x2 x3 x4 x5 μ = cI (m_Mo_column x1 (x3 + (nI 1)) μ) fun v2 μ1 => bif decide (x4 - v2 < x5) then (m_Mo_makesTurns_11 x1 x2 (x3 + (nI 1)) μ1) else (cV (m_Mo_timesLess x5 μ1) fun μ3 => m_Mo_makesTurns_35 x1 (x2 - x5) x3 x4 (x5 + (nI 1)) μ3) := (semC_eq _).trans rfl
set_option maxRecDepth 10000 in
theorem e_Mo_makesChains (x1 : Int32) (μ : Mm) : m_Mo_makesChains x1 μ = m_Mo_makesChains_2 x1 (nI 0) μ := (semC_eq _).trans rfl
set_option maxRecDepth 10000 in
theorem e_Mo_makesChains_2 (x1 : Int32) (x2 : Int32) (μ : Mm) : m_Mo_makesChains_2 x1 x2 μ = bif decide (x2 < nI 589) then (gd (inb x2 589) (m_Mo_makesChains_2 x1 (x2 + (nI 1)) (sL μ 318 x2.toNatClampNeg (lN 0)))) else (gd (inb (nI 0) 589) (m_Mo_makesChains_31 x1 (nI 1) (sL μ 318 (nI 0).toNatClampNeg (lN 1)))) := (semC_eq _).trans rfl
set_option maxRecDepth 10000 in
theorem e_Mo_makesChains_31 (x1 : Int32) (x2 : Int32) (μ : Mm) : m_Mo_makesChains_31 x1 x2 μ = bif decide (x1 < x2) then (m_Mo_makesChains_156 x1 (nI 0) μ) else (m_Mo_makesChains_38 x1 x2 (nI 0) μ) := (semC_eq _).trans rfl
set_option maxRecDepth 10000 in
theorem e_Mo_makesChains_38 (x1 : Int32) (x2 : Int32) (x3 : Int32) (μ : Mm) : m_Mo_makesChains_38 x1 x2 x3 μ = bif decide (x3 < x2) then (gd (inb x3 19) (gd (inb x2 19) (bif decide (μ.1 308 x3.toNatClampNeg = (μ.1 308 x2.toNatClampNeg) - (nI 1)) then (cV (m_Mo_makesSubgroups x2 x3 μ) fun μ1 => m_Mo_makesChains_72 x1 x2 x3 (nI 0) μ1) else (m_Mo_makesChains_38 x1 x2 (x3 + (nI 1)) μ)))) else (m_Mo_makesChains_31 x1 (x2 + (nI 1)) μ) := (semC_eq _).trans rfl
set_option maxRecDepth 10000 in
theorem e_Mo_makesChains_72 (x1 : Int32) (x2 : Int32) (x3 : Int32) (x4 : Int32) (μ : Mm) : m_Mo_makesChains_72 x1 x2 x3 x4 μ = bif decide (x4 < nI 31) then (m_Mo_makesChains_82 x1 x2 x3 x4 (nI 0) μ) else (m_Mo_makesChains_38 x1 x2 (x3 + (nI 1)) μ) := (semC_eq _).trans rfl
set_option maxRecDepth 10000 in
theorem e_Mo_makesChains_82 (x1 : Int32) (x2 : Int32) (x3 : Int32) (x4 : Int32) (x5 : Int32) (μ : Mm) : m_Mo_makesChains_82 x1 x2 x3 x4 x5 μ = bif decide (x4 + x5 < nI 31) then (gd (inb (((x2 * (nI 31)) + x4) + x5) 589) (gd (inb x4 31) (gd (inb ((x3 * (nI 31)) + x5) 589) (gd (inb (((x2 * (nI 31)) + x4) + x5) 589) (m_Mo_makesChains_82 x1 x2 x3 x4 (x5 + (nI 1)) (sL μ 318 (((x2 * (nI 31)) + x4) + x5).toNatClampNeg ((μ.2 318 (((x2 * (nI 31)) + x4) + x5).toNatClampNeg) + ((μ.2 310 x4.toNatClampNeg) * (μ.2 318 ((x3 * (nI 31)) + x5).toNatClampNeg))))))))) else (m_Mo_makesChains_72 x1 x2 x3 (x4 + (nI 1)) μ) := (semC_eq _).trans rfl
set_option maxRecDepth 10000 in
theorem e_Mo_makesChains_156 (x1 : Int32) (x2 : Int32) (μ : Mm) : m_Mo_makesChains_156 x1 x2 μ = bif decide (x2 < nI 31) then (gd (inb ((x1 * (nI 31)) + x2) 589) (gd (inb x2 31) (m_Mo_makesChains_156 x1 (x2 + (nI 1)) (sL μ 310 x2.toNatClampNeg (μ.2 318 ((x1 * (nI 31)) + x2).toNatClampNeg))))) else (some (none, μ)) := (semC_eq _).trans rfl
set_option maxRecDepth 10000 in
theorem e_Mo_makesWhole (x1 : Int32) (x2 : Int32) (μ : Mm) : m_Mo_makesWhole x1 x2 μ = bif decide (x2 = nI 0) then (cV (m_Mo_makesAll x1 μ) fun μ3 => some (none, μ3)) else (bif decide (x2 = nI 1) then (cV (m_Mo_makesTurns x1 μ) fun μ2 => some (none, μ2)) else (cV (m_Mo_makesChains x1 μ) fun μ1 => some (none, μ1))) := (semC_eq _).trans rfl
set_option maxRecDepth 10000 in
theorem e_Mo_whole_III (x1 : Int32) (x2 : Int32) (x3 : Int32) (μ : Mm) : m_Mo_whole_III x1 x2 x3 μ = cI (m_Mo_numberOf x1 μ) fun v2 μ1 => bif decide (v2 = (-1 : Int32)) then (some (some (.long (-9223372036854775808 : Int64)), μ1)) else (cI (m_Mo_in_JJJ x2.toInt64 (lN 0) (lN 2) μ1) fun v4 μ3 => bif decide (v4 = nI 0) then (some (some (.long (-9223372036854775808 : Int64)), μ3)) else (cI (m_Mo_isPart x3 μ3) fun v6 μ5 => bif decide (v6 = nI 0) then (some (some (.long (-9223372036854775808 : Int64)), μ5)) else (cV (m_Mo_makesWhole v2 x2 μ5) fun μ7 => cJ (m_Mo_part 310 (nI 0) x3 μ7) fun v9 μ8 => some (some (.long v9), μ8)))) := (semC_eq _).trans rfl
set_option maxRecDepth 10000 in
theorem e_Mo_whole_  (μ : Mm) : m_Mo_whole_ μ = some (some (.long (((lN 1) <<< ((μ.1 306 16).toInt64 &&& 63)) - (lN 1))), μ) := (semC_eq _).trans rfl
set_option maxRecDepth 10000 in
theorem e_Mo_isPrime (x0 : Int32) (μ : Mm) : m_Mo_isPrime x0 μ = bif decide (x0 = nI 2) then (gd (isb (nI 1)) (some (some (.int (nI 1)), μ))) else (bif decide (x0 = nI 3) then (gd (isb (nI 1)) (some (some (.int (nI 1)), μ))) else (bif decide (x0 = nI 5) then (gd (isb (nI 1)) (some (some (.int (nI 1)), μ))) else (bif decide (x0 = nI 7) then (gd (isb (nI 1)) (some (some (.int (nI 1)), μ))) else (gd (isb (nI 0)) (some (some (.int (nI 0)), μ)))))) := (semC_eq _).trans rfl
set_option maxRecDepth 10000 in
theorem e_Mo_valueOfMade (x1 : Int32) (μ : Mm) : m_Mo_valueOfMade x1 μ = m_Mo_valueOfMade_6 x1 (lN 0) (nI 30) μ := (semC_eq _).trans rfl
set_option maxRecDepth 10000 in
theorem e_Mo_valueOfMade_6 (x1 : Int32) (x2 : Int64) (x4 : Int32) (μ : Mm) : m_Mo_valueOfMade_6 x1 x2 x4 μ = bif decide (x4 < nI 0) then (some (some (.long x2), μ)) else (gd (inb x4 31) (m_Mo_valueOfMade_6 x1 ((x2 * x1.toInt64) + (μ.2 310 x4.toNatClampNeg)) (x4 + (-1 : Int32)) μ)) := (semC_eq _).trans rfl
set_option maxRecDepth 10000 in
theorem e_Mo_value (x1 : Int32) (x2 : Int32) (x3 : Int32) (μ : Mm) : m_Mo_value x1 x2 x3 μ = cI (m_Mo_numberOf x1 μ) fun v2 μ1 => bif decide (v2 = (-1 : Int32)) then (some (some (.long (-9223372036854775808 : Int64)), μ1)) else (cI (m_Mo_in_JJJ x2.toInt64 (lN 0) (lN 2) μ1) fun v4 μ3 => bif decide (v4 = nI 0) then (some (some (.long (-9223372036854775808 : Int64)), μ3)) else (cI (m_Mo_isPrime x3 μ3) fun v6 μ5 => bif decide (v6 = nI 0) then (some (some (.long (-9223372036854775808 : Int64)), μ5)) else (cV (m_Mo_makesWhole v2 x2 μ5) fun μ7 => cJ (m_Mo_valueOfMade x3 μ7) fun v9 μ8 => some (some (.long v9), μ8)))) := (semC_eq _).trans rfl
set_option maxRecDepth 10000 in
theorem e_Mo_takes (x1 : Int32) (x2 : Int32) (μ : Mm) : m_Mo_takes x1 x2 μ = gd (inb x1 19) (m_Mo_takes_30 x2 ((sI (sI (sI (sI μ 306 14 x1) 306 15 x2) 306 16 (nI 1)) 306 18 (nI 0)).1 307 x1.toNatClampNeg) (nI 1) (sI (sI (sI (sI μ 306 14 x1) 306 15 x2) 306 16 (nI 1)) 306 18 (nI 0))) := (semC_eq _).trans rfl
set_option maxRecDepth 10000 in
theorem e_Mo_takes_30 (x2 : Int32) (x3 : Int32) (x4 : Int32) (μ : Mm) : m_Mo_takes_30 x2 x3 x4 μ = bif decide (x3 < x4 * (nI 10)) then (m_Mo_takes_53 x2 x3 x4 μ) else (m_Mo_takes_30 x2 x3 (x4 * (nI 10)) μ) := (semC_eq _).trans rfl
set_option maxRecDepth 10000 in
theorem e_Mo_takes_53 (x2 : Int32) (x3 : Int32) (x5 : Int32) (μ : Mm) : m_Mo_takes_53 x2 x3 x5 μ = bif decide (nI 0 < x5) then (bif decide (nI 0 < x3) then (gd (!decide (x5 = 0)) (cI (m_Mo_power x2 (x3 / x5) μ) fun v2 μ1 => gd (inb (μ.1 306 18) 5) (gd (inb ((sI μ1 319 (μ.1 306 18).toNatClampNeg v2).1 306 18) 5) (gd (!decide (x5 = 0)) (gd (!decide (nI 10 = 0)) (m_Mo_takes_53 x2 (x3 - x3 / x5 * x5) (x5 / (nI 10)) (sI (sI (sI μ1 319 (μ.1 306 18).toNatClampNeg v2) 306 16 (((sI μ1 319 (μ.1 306 18).toNatClampNeg v2).1 306 16) * ((sI μ1 319 (μ.1 306 18).toNatClampNeg v2).1 319 ((sI μ1 319 (μ.1 306 18).toNatClampNeg v2).1 306 18).toNatClampNeg))) 306 18 (((sI (sI μ1 319 (μ.1 306 18).toNatClampNeg v2) 306 16 (((sI μ1 319 (μ.1 306 18).toNatClampNeg v2).1 306 16) * ((sI μ1 319 (μ.1 306 18).toNatClampNeg v2).1 319 ((sI μ1 319 (μ.1 306 18).toNatClampNeg v2).1 306 18).toNatClampNeg))).1 306 18) + (nI 1))))))))) else (some (none, sI μ 306 21 (nI 0)))) else (some (none, sI μ 306 21 (nI 0))) := (semC_eq _).trans rfl
set_option maxRecDepth 10000 in
theorem e_Mo_power (x0 : Int32) (x1 : Int32) (μ : Mm) : m_Mo_power x0 x1 μ = m_Mo_power_4 x0 x1 (nI 1) (nI 0) μ := (semC_eq _).trans rfl
set_option maxRecDepth 10000 in
theorem e_Mo_power_4 (x0 : Int32) (x1 : Int32) (x2 : Int32) (x3 : Int32) (μ : Mm) : m_Mo_power_4 x0 x1 x2 x3 μ = bif decide (x3 < x1) then (m_Mo_power_4 x0 x1 (x2 * x0) (x3 + (nI 1)) μ) else (some (some (.int x2), μ)) := (semC_eq _).trans rfl
set_option maxRecDepth 10000 in
theorem e_Mo_group (x1 : Int32) (x2 : Int32) (μ : Mm) : m_Mo_group x1 x2 μ = cI (m_Mo_numberOf x1 μ) fun v2 μ1 => bif decide (v2 = (-1 : Int32)) then (some (some (.int (-1 : Int32)), μ1)) else (cI (m_Mo_isPrime x2 μ1) fun v4 μ3 => bif decide (v4 = nI 0) then (some (some (.int (-2 : Int32)), μ3)) else (gd (inb v2 19) (cI (m_Mo_power x2 (μ3.1 308 v2.toNatClampNeg) μ3) fun v6 μ5 => bif decide (nI 32 < v6) then (some (some (.int (-4 : Int32)), μ5)) else (cV (m_Mo_takes v2 x2 μ5) fun μ7 => some (some (.int (μ7.1 306 16)), μ7))))) := (semC_eq _).trans rfl
set_option maxRecDepth 10000 in
theorem e_Mo_isElement (x1 : Int32) (μ : Mm) : m_Mo_isElement x1 μ = cI (m_Mo_in_JJJ x1.toInt64 (lN 0) (((μ.1 306 16) - (nI 1)).toInt64) μ) fun v2 μ1 => gd (isb v2) (some (some (.int v2), μ1)) := (semC_eq _).trans rfl
set_option maxRecDepth 10000 in
theorem e_Mo_adds_III (x1 : Int32) (x2 : Int32) (x3 : Int32) (μ : Mm) : m_Mo_adds_III x1 x2 x3 μ = m_Mo_adds_III_15 x3 x1 x2 (nI 0) (nI 1) (nI 0) μ := (semC_eq _).trans rfl
set_option maxRecDepth 10000 in
theorem e_Mo_adds_III_15 (x3 : Int32) (x4 : Int32) (x5 : Int32) (x6 : Int32) (x7 : Int32) (x8 : Int32) (μ : Mm) : m_Mo_adds_III_15 x3 x4 x5 x6 x7 x8 μ = bif decide (x8 < μ.1 306 18) then (gd (inb x8 5) (gd (!decide (μ.1 319 x8.toNatClampNeg = 0)) (gd (inb x8 5) (gd (!decide (μ.1 319 x8.toNatClampNeg = 0)) (gd (inb x8 5) (cJ (m_jM_floorMod (((x4 - x4 / (μ.1 319 x8.toNatClampNeg) * (μ.1 319 x8.toNatClampNeg)).toInt64) + (((x5 - x5 / (μ.1 319 x8.toNatClampNeg) * (μ.1 319 x8.toNatClampNeg)).toInt64) * x3.toInt64)) ((μ.1 319 x8.toNatClampNeg).toInt64) μ) fun v2 μ1 => gd (inb x8 5) (gd (!decide (μ1.1 319 x8.toNatClampNeg = 0)) (gd (inb x8 5) (gd (!decide (μ1.1 319 x8.toNatClampNeg = 0)) (gd (inb x8 5) (m_Mo_adds_III_15 x3 (x4 / (μ1.1 319 x8.toNatClampNeg)) (x5 / (μ1.1 319 x8.toNatClampNeg)) (x6 + (x7 * v2.toInt32)) (x7 * (μ1.1 319 x8.toNatClampNeg)) (x8 + (nI 1)) μ1))))))))))) else (some (some (.int x6), μ)) := (semC_eq _).trans rfl
set_option maxRecDepth 10000 in
theorem e_Mo_adds_IJJ (x1 : Int32) (x2 : Int64) (x4 : Int64) (μ : Mm) : m_Mo_adds_IJJ x1 x2 x4 μ = bif decide (μ.1 306 28 = nI 0) then (some (none, μ)) else (m_Mo_adds_IJJ_20 x2 x4 ((x1 * (nI 19)) * (nI 31)) (nI 0) μ) := (semC_eq _).trans rfl
set_option maxRecDepth 10000 in
theorem e_Mo_adds_IJJ_20 (x2 : Int64) (x4 : Int64) (x6 : Int32) (x7 : Int32) (μ : Mm) : m_Mo_adds_IJJ_20 x2 x4 x6 x7 μ = bif decide (x7 < nI 589) then (gd (inb (x6 + x7) 1767) (gd (inb (x6 + x7) 1767) (gd (inb (x6 + x7) 1767) (m_Mo_adds_IJJ_20 x2 x4 x6 (x7 + (nI 1)) (sL μ 323 (x6 + x7).toNatClampNeg ((x2 * (μ.2 323 (x6 + x7).toNatClampNeg)) + (x4 * (μ.2 324 (x6 + x7).toNatClampNeg)))))))) else (some (none, μ)) := (semC_eq _).trans rfl
set_option maxRecDepth 10000 in
theorem e_Mo_sum (x1 : Int32) (x2 : Int32) (μ : Mm) : m_Mo_sum x1 x2 μ = cI (m_Mo_isElement x1 μ) fun v2 μ1 => bif decide (v2 = nI 0) then (some (some (.int (-1 : Int32)), μ1)) else (cI (m_Mo_isElement x2 μ1) fun v4 μ3 => bif decide (v4 = nI 0) then (some (some (.int (-1 : Int32)), μ3)) else (cI (m_Mo_adds_III x1 x2 (nI 1) μ3) fun v6 μ5 => some (some (.int v6), μ5))) := (semC_eq _).trans rfl
set_option maxRecDepth 10000 in
theorem e_Mo_times (x1 : Int32) (x2 : Int32) (μ : Mm) : m_Mo_times x1 x2 μ = cI (m_Mo_isElement x1 μ) fun v2 μ1 => bif decide (v2 = nI 0) then (some (some (.int (-1 : Int32)), μ1)) else (cI (m_Mo_adds_III (nI 0) x1 x2 μ1) fun v4 μ3 => some (some (.int v4), μ3)) := (semC_eq _).trans rfl
set_option maxRecDepth 10000 in
theorem e_Mo_order (x1 : Int32) (μ : Mm) : m_Mo_order x1 μ = cI (m_Mo_isElement x1 μ) fun v2 μ1 => bif decide (v2 = nI 0) then (some (some (.int (-1 : Int32)), μ1)) else (m_Mo_order_14 x1 (nI 1) x1 μ1) := (semC_eq _).trans rfl
set_option maxRecDepth 10000 in
theorem e_Mo_order_14 (x1 : Int32) (x2 : Int32) (x3 : Int32) (μ : Mm) : m_Mo_order_14 x1 x2 x3 μ = bif decide (x3 = nI 0) then (some (some (.int x2), μ)) else (cI (m_Mo_adds_III x3 x1 (nI 1) μ) fun v2 μ1 => m_Mo_order_14 x1 (x2 + (nI 1)) v2 μ1) := (semC_eq _).trans rfl
