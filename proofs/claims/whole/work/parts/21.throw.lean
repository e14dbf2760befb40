/-! throwing: the words of the two exceptions' constructors -/
def gg_xnm : List String := ["java/lang/RuntimeException", "java/lang/Exception"]
def gg_xw (ic : Nat) (X : String) : List Cond := vx_at0 (gg_c 6) ic X gg_xnm
def gg_xb (X : String) : List Cond := .castable X X :: gg_dcl.map Cond.declares
set_option maxRecDepth 100000 in
theorem gg_xw_1 : ((gg_xw 113 "java/lang/IllegalArgumentException").filter (fun w => !goodWord w)).all (fun w => decide (w ∈ gg_xb "java/lang/IllegalArgumentException")) = true := by decide +kernel
set_option maxRecDepth 100000 in
theorem gg_xw_2 : ((gg_xw 340 "java/lang/IndexOutOfBoundsException").filter (fun w => !goodWord w)).all (fun w => decide (w ∈ gg_xb "java/lang/IndexOutOfBoundsException")) = true := by decide +kernel
set_option maxRecDepth 100000 in
theorem gg_xw_3 : ((gg_xw 113 "java/lang/IllegalArgumentException").filter goodWord).all (fun w => (List.range 9).any fun j => (gg_tb j).any fun v => decide (v = w)) = true := by decide +kernel
set_option maxRecDepth 100000 in
theorem gg_xw_4 : ((gg_xw 340 "java/lang/IndexOutOfBoundsException").filter goodWord).all (fun w => (List.range 9).any fun j => (gg_tb j).any fun v => decide (v = w)) = true := by decide +kernel
