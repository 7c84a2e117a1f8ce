/-! ===== the words of new things ===== -/
set_option maxRecDepth 100000 in
theorem w_ac_int : inB (.arrayClass (newarray.typeOf .int)) = true := inB_at 100 (by decide +kernel) (by decide +kernel)
set_option maxRecDepth 100000 in
theorem w_ac_boolean : inB (.arrayClass (newarray.typeOf .boolean)) = true := inB_at 101 (by decide +kernel) (by decide +kernel)
set_option maxRecDepth 100000 in
theorem w_ac_byte : inB (.arrayClass (newarray.typeOf .byte)) = true := inB_at 205 (by decide +kernel) (by decide +kernel)
set_option maxRecDepth 100000 in
theorem w_ins_0 : inB (.instantiable (RN 0) (nF 0)) = true := inB_at 158 (by decide +kernel) (by decide +kernel)
set_option maxRecDepth 100000 in
theorem w_ini_0 : inB (.initialized (RN 0)) = true := inB_at 63 (by decide +kernel) (by decide +kernel)
set_option maxRecDepth 100000 in
theorem w_ob_0 : inB (.methodLink (RN 0) 3 Lib.objectInit) = true := inB_at 162 (by decide +kernel) (by decide +kernel)
set_option maxRecDepth 100000 in
theorem w_ins_1 : inB (.instantiable (RN 1) (nF 1)) = true := inB_at 207 (by decide +kernel) (by decide +kernel)
set_option maxRecDepth 100000 in
theorem w_ini_1 : inB (.initialized (RN 1)) = true := inB_at 66 (by decide +kernel) (by decide +kernel)
set_option maxRecDepth 100000 in
theorem w_ob_1 : inB (.methodLink (RN 1) 3 Lib.objectInit) = true := inB_at 211 (by decide +kernel) (by decide +kernel)
set_option maxRecDepth 100000 in
theorem w_ins_2 : inB (.instantiable (RN 2) (nF 2)) = true := inB_at 142 (by decide +kernel) (by decide +kernel)
set_option maxRecDepth 100000 in
theorem w_ini_2 : inB (.initialized (RN 2)) = true := inB_at 62 (by decide +kernel) (by decide +kernel)
set_option maxRecDepth 100000 in
theorem w_ob_2 : inB (.methodLink (RN 2) 3 Lib.objectInit) = true := inB_at 146 (by decide +kernel) (by decide +kernel)
set_option maxRecDepth 100000 in
theorem w_ins_3 : inB (.instantiable (RN 3) (nF 3)) = true := inB_at 493 (by decide +kernel) (by decide +kernel)
set_option maxRecDepth 100000 in
theorem w_ini_3 : inB (.initialized (RN 3)) = true := inB_at 69 (by decide +kernel) (by decide +kernel)
set_option maxRecDepth 100000 in
theorem w_ob_3 : inB (.methodLink (RN 3) 3 Lib.objectInit) = true := inB_at 497 (by decide +kernel) (by decide +kernel)
set_option maxRecDepth 100000 in
theorem w_ins_4 : inB (.instantiable (RN 4) (nF 4)) = true := inB_at 177 (by decide +kernel) (by decide +kernel)
set_option maxRecDepth 100000 in
theorem w_ini_4 : inB (.initialized (RN 4)) = true := inB_at 64 (by decide +kernel) (by decide +kernel)
set_option maxRecDepth 100000 in
theorem w_ob_4 : inB (.methodLink (RN 4) 3 Lib.objectInit) = true := inB_at 181 (by decide +kernel) (by decide +kernel)
set_option maxRecDepth 100000 in
theorem w_ins_5 : inB (.instantiable (RN 5) (nF 5)) = true := inB_at 103 (by decide +kernel) (by decide +kernel)
set_option maxRecDepth 100000 in
theorem w_ini_5 : inB (.initialized (RN 5)) = true := inB_at 61 (by decide +kernel) (by decide +kernel)
set_option maxRecDepth 100000 in
theorem w_ob_5 : inB (.methodLink (RN 5) 3 Lib.objectInit) = true := inB_at 107 (by decide +kernel) (by decide +kernel)
set_option maxRecDepth 100000 in
theorem w_ins_6 : inB (.instantiable (RN 6) (nF 6)) = true := inB_at 193 (by decide +kernel) (by decide +kernel)
set_option maxRecDepth 100000 in
theorem w_ini_6 : inB (.initialized (RN 6)) = true := inB_at 65 (by decide +kernel) (by decide +kernel)
set_option maxRecDepth 100000 in
theorem w_ob_6 : inB (.methodLink (RN 6) 3 Lib.objectInit) = true := inB_at 197 (by decide +kernel) (by decide +kernel)
set_option maxRecDepth 100000 in
theorem w_ins_7 : inB (.instantiable (RN 7) (nF 7)) = true := inB_at 79 (by decide +kernel) (by decide +kernel)
set_option maxRecDepth 100000 in
theorem w_ini_7 : inB (.initialized (RN 7)) = true := inB_at 60 (by decide +kernel) (by decide +kernel)
set_option maxRecDepth 100000 in
theorem w_ob_7 : inB (.methodLink (RN 7) 3 Lib.objectInit) = true := inB_at 83 (by decide +kernel) (by decide +kernel)
set_option maxRecDepth 100000 in
theorem w_ins_8 : inB (.instantiable (RN 8) (nF 8)) = true := inB_at 71 (by decide +kernel) (by decide +kernel)
set_option maxRecDepth 100000 in
theorem w_ini_8 : inB (.initialized (RN 8)) = true := inB_at 59 (by decide +kernel) (by decide +kernel)
set_option maxRecDepth 100000 in
theorem w_ob_8 : inB (.methodLink (RN 8) 3 Lib.objectInit) = true := inB_at 75 (by decide +kernel) (by decide +kernel)
set_option maxRecDepth 100000 in
theorem w_ins_9 : inB (.instantiable (RN 9) (nF 9)) = true := inB_at 727 (by decide +kernel) (by decide +kernel)
set_option maxRecDepth 100000 in
theorem w_ini_9 : inB (.initialized (RN 9)) = true := inB_at 67 (by decide +kernel) (by decide +kernel)
set_option maxRecDepth 100000 in
theorem w_ob_9 : inB (.methodLink (RN 9) 1 Lib.objectInit) = true := inB_at 731 (by decide +kernel) (by decide +kernel)
set_option maxRecDepth 100000 in
theorem w_cl_10_8 : inB (.classLink (RN 10) 7 (RN 8)) = true := inB_at 70 (by decide +kernel) (by decide +kernel)
set_option maxRecDepth 100000 in
theorem w_cl_8_7 : inB (.classLink (RN 8) 9 (RN 7)) = true := inB_at 78 (by decide +kernel) (by decide +kernel)
set_option maxRecDepth 100000 in
theorem w_cl_8_5 : inB (.classLink (RN 8) 12 (RN 5)) = true := inB_at 102 (by decide +kernel) (by decide +kernel)
set_option maxRecDepth 100000 in
theorem w_cl_5_rows : inB (.classLink (RN 5) 9 "[[I") = true := inB_at 108 (by decide +kernel) (by decide +kernel)
set_option maxRecDepth 100000 in
theorem w_cl_8_2 : inB (.classLink (RN 8) 21 (RN 2)) = true := inB_at 141 (by decide +kernel) (by decide +kernel)
set_option maxRecDepth 100000 in
theorem w_cl_8_0 : inB (.classLink (RN 8) 31 (RN 0)) = true := inB_at 157 (by decide +kernel) (by decide +kernel)
set_option maxRecDepth 100000 in
theorem w_cl_8_4 : inB (.classLink (RN 8) 38 (RN 4)) = true := inB_at 176 (by decide +kernel) (by decide +kernel)
set_option maxRecDepth 100000 in
theorem w_cl_8_6 : inB (.classLink (RN 8) 45 (RN 6)) = true := inB_at 192 (by decide +kernel) (by decide +kernel)
set_option maxRecDepth 100000 in
theorem w_cl_8_1 : inB (.classLink (RN 8) 52 (RN 1)) = true := inB_at 206 (by decide +kernel) (by decide +kernel)
set_option maxRecDepth 100000 in
theorem w_cl_4_3 : inB (.classLink (RN 4) 49 (RN 3)) = true := inB_at 492 (by decide +kernel) (by decide +kernel)
set_option maxRecDepth 100000 in
theorem w_cl_10_9 : inB (.classLink (RN 10) 10 (RN 9)) = true := inB_at 726 (by decide +kernel) (by decide +kernel)
set_option maxRecDepth 100000 in
theorem w_oi : inB (.instanceMethod Lib.objectInit) = true := inB_at 76 (by decide +kernel) (by decide +kernel)
set_option maxRecDepth 100000 in
theorem w_oc : inB (.code Lib.objectInit ⟨#[0xb1]⟩ 1 none) = true := inB_at 77 (by decide +kernel) (by decide +kernel)
section NW2
variable {M : MC} {d n0 n1 : Nat} {sc : Option (Nat × (Nat → Int32))} {Q : PQ} {n : Nat} {ρ ρ' : Ref} {σ : Mem} {pc : Nat} {lv : LV} {st : List Value}
theorem V.cast (h : ρ = ρ') (k : V M d n0 n1 sc Q n ρ' σ pc lv st) : V M d n0 n1 sc Q n ρ σ pc lv st := by
  rw [h]
  exact k
end NW2
