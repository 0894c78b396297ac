section PqMakes
variable {l : Launch} {s0 s : State} {a0 args : Array Value} {D : va_G} {cI cL cC : ClassId}
theorem cl_Law_Canvas (hB : pq_B l s0 a0 D cI cL cC) (hW0 : s0.WarmedH s.vm) : (Cond.classLink R_Law 8 R_Canvas).before args s = true := pq_wd hW0 (pq_tables_1_1 hB _ (List.mem_of_getElem? (i := 13) rfl)) rfl
theorem in_Canvas (hB : pq_B l s0 a0 D cI cL cC) (hW0 : s0.WarmedH s.vm) : (Cond.instantiable R_Canvas 12).before args s = true := pq_wd hW0 (pq_tables_1_1 hB _ (List.mem_of_getElem? (i := 14) rfl)) rfl
theorem ii_Canvas (hB : pq_B l s0 a0 D cI cL cC) (hW0 : s0.WarmedH s.vm) : (Cond.initialized R_Canvas).before args s = true := pq_wd hW0 (pq_tables_1_1 hB _ (List.mem_of_getElem? (i := 1) rfl)) rfl
theorem cl_Canvas_Box (hB : pq_B l s0 a0 D cI cL cC) (hW0 : s0.WarmedH s.vm) : (Cond.classLink R_Canvas 7 R_Box).before args s = true := pq_wd hW0 (pq_tables_1_1 hB _ (List.mem_of_getElem? (i := 21) rfl)) rfl
theorem in_Box (hB : pq_B l s0 a0 D cI cL cC) (hW0 : s0.WarmedH s.vm) : (Cond.instantiable R_Box 4).before args s = true := pq_wd hW0 (pq_tables_1_1 hB _ (List.mem_of_getElem? (i := 22) rfl)) rfl
theorem ii_Box (hB : pq_B l s0 a0 D cI cL cC) (hW0 : s0.WarmedH s.vm) : (Cond.initialized R_Box).before args s = true := pq_wd hW0 (pq_tables_1_1 hB _ (List.mem_of_getElem? (i := 2) rfl)) rfl
theorem cl_Canvas_Grid (hB : pq_B l s0 a0 D cI cL cC) (hW0 : s0.WarmedH s.vm) : (Cond.classLink R_Canvas 16 R_Grid).before args s = true := pq_wd hW0 (pq_tables_1_1 hB _ (List.mem_of_getElem? (i := 48) rfl)) rfl
theorem in_Grid (hB : pq_B l s0 a0 D cI cL cC) (hW0 : s0.WarmedH s.vm) : (Cond.instantiable R_Grid 6).before args s = true := pq_wd hW0 (pq_tables_1_1 hB _ (List.mem_of_getElem? (i := 49) rfl)) rfl
theorem ii_Grid (hB : pq_B l s0 a0 D cI cL cC) (hW0 : s0.WarmedH s.vm) : (Cond.initialized R_Grid).before args s = true := pq_wd hW0 (pq_tables_1_1 hB _ (List.mem_of_getElem? (i := 3) rfl)) rfl
theorem cl_Canvas_Comp (hB : pq_B l s0 a0 D cI cL cC) (hW0 : s0.WarmedH s.vm) : (Cond.classLink R_Canvas 23 R_Comp).before args s = true := pq_wd hW0 (pq_tables_1_1 hB _ (List.mem_of_getElem? (i := 79) rfl)) rfl
theorem ao_Comp (hB : pq_B l s0 a0 D cI cL cC) (hW0 : s0.WarmedH s.vm) : va_AO R_Comp s := va_AO.moved hW0.alike (va_AO.of (pq_tables_1_1 hB _ (List.mem_of_getElem? (i := 80) rfl)))
theorem in_Comp (hB : pq_B l s0 a0 D cI cL cC) (hW0 : s0.WarmedH s.vm) : (Cond.instantiable R_Comp 7).before args s = true := pq_wd hW0 (pq_tables_1_2 hB _ (List.mem_of_getElem? (i := 19) rfl)) rfl
theorem ii_Comp (hB : pq_B l s0 a0 D cI cL cC) (hW0 : s0.WarmedH s.vm) : (Cond.initialized R_Comp).before args s = true := pq_wd hW0 (pq_tables_1_1 hB _ (List.mem_of_getElem? (i := 10) rfl)) rfl
theorem ac_int (hB : pq_B l s0 a0 D cI cL cC) (hW0 : s0.WarmedH s.vm) : (Cond.arrayClass .int).before args s = true := pq_wd hW0 (pq_tables_1_2 hB _ (List.mem_of_getElem? (i := 53) rfl)) rfl
theorem cl_Law_Mod (hB : pq_B l s0 a0 D cI cL cC) (hW0 : s0.WarmedH s.vm) : (Cond.classLink R_Law 65 R_Mod).before args s = true := pq_wd hW0 (pq_tables_1_3 hB _ (List.mem_of_getElem? (i := 56) rfl)) rfl
theorem in_Mod (hB : pq_B l s0 a0 D cI cL cC) (hW0 : s0.WarmedH s.vm) : (Cond.instantiable R_Mod 24).before args s = true := pq_wd hW0 (pq_tables_1_3 hB _ (List.mem_of_getElem? (i := 57) rfl)) rfl
theorem ii_Mod (hB : pq_B l s0 a0 D cI cL cC) (hW0 : s0.WarmedH s.vm) : (Cond.initialized R_Mod).before args s = true := pq_wd hW0 (pq_tables_1_1 hB _ (List.mem_of_getElem? (i := 4) rfl)) rfl
theorem ac_long (hB : pq_B l s0 a0 D cI cL cC) (hW0 : s0.WarmedH s.vm) : (Cond.arrayClass .long).before args s = true := pq_wd hW0 (pq_tables_1_4 hB _ (List.mem_of_getElem? (i := 44) rfl)) rfl
end PqMakes
