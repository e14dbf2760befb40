/-! what stays as it was at the start: classes, the script, statics, texts -/
def gg_A (S0 : Nat) : Nat → Prop := fun q => S0 ≤ q
def gg_cl : List vw_C := [(RX0, TX0, 11), (RX1, TX1, 3), (RX2, TX2, 5), (RX3, TX3, 8), (RX4, TX4, 3), (RX5, TX5, 7), (RX6, TX6, 8), (RX7, TX7, 5), (RX0, TX0, 11), (RX9, TX9, 4), (RX0, TX0, 11), (RX0, TX0, 11), (RX0, TX0, 11), (RX0, TX0, 11), (RX14, TX14, 6), (RX15, TX15, 3), (RX16, TX16, 4), (RX17, TX17, 4)]
def gg_ty (cA : Nat → ClassId) : List (ClassId × FieldType) := [(cA 1, .int), (cA 2, .boolean), (cA 3, .byte), (cA 4, .long), (cA 5, .object RX0), (cA 7, .object RX2), (cA 19, .object RX14), (cA 29, .object "java/lang/Object"), (cA 30, .array .int)]
/-- private methods of AbstractStringBuilder, on a StringBuilder -/
def gy_sb4 : List Cond := [404, 406, 409, 410].map fun y => .selects "java/lang/StringBuilder" (gg_nm y) (gg_nm y)
/-- the words that hold everywhere -/
def gg_gw : List Cond := (lw_tbl ++ gy_sb4).filter goodWord
theorem gg_gw_tb {w : Cond} (h : w ∈ lw_tbl) (h2 : goodWord w = true) : w ∈ gg_gw := List.mem_filter.mpr ⟨List.mem_append_left _ h, h2⟩
theorem gg_gw_sb {y : Nat} (h : y = 404 ∨ y = 406 ∨ y = 409 ∨ y = 410) : Cond.selects "java/lang/StringBuilder" (gg_nm y) (gg_nm y) ∈ gg_gw := by
  refine List.mem_filter.mpr ⟨List.mem_append_right _ (List.mem_map.mpr ⟨y, ?_, rfl⟩), rfl⟩
  rcases h with rfl | rfl | rfl | rfl <;> decide
theorem gg_gw_good : GoodIn gg_gw gg_gw := fun w h => ⟨h, good_of_word (List.mem_filter.mp h).2⟩
def gg_str (i : Nat) : String := ["graph", "arc", "mark", "graph ", ";arc ", " ; arc ", ";mark "].getD i ""
