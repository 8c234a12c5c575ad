/-! names, fields, cells: printed by wip/whole/gen (our own program) out of the claim's tables and listing -/
def tb : List Cond := lw_tbl.filter goodWord
theorem tb_good : ∀ w ∈ tb, goodWord w = true := fun w h => (List.mem_filter.mp h).2
theorem tb_in {w : Cond} (i : Nat) (h : tables_1[i]? = some w) (g : goodWord w = true) : w ∈ tb := List.mem_filter.mpr ⟨List.mem_append_right _ (List.mem_of_getElem? h), g⟩
theorem tk1 {w : Cond} (i : Nat) (h0 : tables_1_1[i]? = some w) (g : goodWord w = true) : w ∈ tb := by
  have h : w ∈ tables_1_1 := List.mem_of_getElem? h0
  exact List.mem_filter.mpr ⟨List.mem_append_right _ (List.mem_append_left _ h), g⟩
theorem tk2 {w : Cond} (i : Nat) (h0 : tables_1_2[i]? = some w) (g : goodWord w = true) : w ∈ tb := by
  have h : w ∈ tables_1_2 := List.mem_of_getElem? h0
  exact List.mem_filter.mpr ⟨List.mem_append_right _ (List.mem_append_right _ (List.mem_append_left _ h)), g⟩
theorem tk3 {w : Cond} (i : Nat) (h0 : tables_1_3[i]? = some w) (g : goodWord w = true) : w ∈ tb := by
  have h : w ∈ tables_1_3 := List.mem_of_getElem? h0
  exact List.mem_filter.mpr ⟨List.mem_append_right _ (List.mem_append_right _ (List.mem_append_right _ (List.mem_append_left _ h))), g⟩
theorem tk4 {w : Cond} (i : Nat) (h0 : tables_1_4[i]? = some w) (g : goodWord w = true) : w ∈ tb := by
  have h : w ∈ tables_1_4 := List.mem_of_getElem? h0
  exact List.mem_filter.mpr ⟨List.mem_append_right _ (List.mem_append_right _ (List.mem_append_right _ (List.mem_append_right _ (List.mem_append_left _ h)))), g⟩
theorem tk5 {w : Cond} (i : Nat) (h0 : tables_1_5[i]? = some w) (g : goodWord w = true) : w ∈ tb := by
  have h : w ∈ tables_1_5 := List.mem_of_getElem? h0
  exact List.mem_filter.mpr ⟨List.mem_append_right _ (List.mem_append_right _ (List.mem_append_right _ (List.mem_append_right _ (List.mem_append_right _ (List.mem_append_left _ h))))), g⟩
theorem tk6 {w : Cond} (i : Nat) (h0 : tables_1_6[i]? = some w) (g : goodWord w = true) : w ∈ tb := by
  have h : w ∈ tables_1_6 := List.mem_of_getElem? h0
  exact List.mem_filter.mpr ⟨List.mem_append_right _ (List.mem_append_right _ (List.mem_append_right _ (List.mem_append_right _ (List.mem_append_right _ (List.mem_append_right _ (List.mem_append_left _ h)))))), g⟩
theorem tk7 {w : Cond} (i : Nat) (h0 : tables_1_7[i]? = some w) (g : goodWord w = true) : w ∈ tb := by
  have h : w ∈ tables_1_7 := List.mem_of_getElem? h0
  exact List.mem_filter.mpr ⟨List.mem_append_right _ (List.mem_append_right _ (List.mem_append_right _ (List.mem_append_right _ (List.mem_append_right _ (List.mem_append_right _ (List.mem_append_right _ (List.mem_append_left _ h))))))), g⟩
theorem tk8 {w : Cond} (i : Nat) (h0 : tables_1_8[i]? = some w) (g : goodWord w = true) : w ∈ tb := by
  have h : w ∈ tables_1_8 := List.mem_of_getElem? h0
  exact List.mem_filter.mpr ⟨List.mem_append_right _ (List.mem_append_right _ (List.mem_append_right _ (List.mem_append_right _ (List.mem_append_right _ (List.mem_append_right _ (List.mem_append_right _ (List.mem_append_right _ (List.mem_append_left _ h)))))))), g⟩
theorem tk9 {w : Cond} (i : Nat) (h0 : tables_1_9[i]? = some w) (g : goodWord w = true) : w ∈ tb := by
  have h : w ∈ tables_1_9 := List.mem_of_getElem? h0
  exact List.mem_filter.mpr ⟨List.mem_append_right _ (List.mem_append_right _ (List.mem_append_right _ (List.mem_append_right _ (List.mem_append_right _ (List.mem_append_right _ (List.mem_append_right _ (List.mem_append_right _ (List.mem_append_right _ (List.mem_append_left _ h))))))))), g⟩
theorem tk10 {w : Cond} (i : Nat) (h0 : tables_1_10[i]? = some w) (g : goodWord w = true) : w ∈ tb := by
  have h : w ∈ tables_1_10 := List.mem_of_getElem? h0
  exact List.mem_filter.mpr ⟨List.mem_append_right _ (List.mem_append_right _ (List.mem_append_right _ (List.mem_append_right _ (List.mem_append_right _ (List.mem_append_right _ (List.mem_append_right _ (List.mem_append_right _ (List.mem_append_right _ (List.mem_append_right _ (h)))))))))), g⟩
theorem tb_sel {w : Cond} (i : Nat) (h : (k2_sels lw_privs)[i]? = some w) (g : goodWord w = true) : w ∈ tb := List.mem_filter.mpr ⟨List.mem_append_left _ (List.mem_of_getElem? h), g⟩
def R_Eng : String := "WardEngine"
def F_Eng : u_T := fun k => match k with
  | 0 => ("WardEngine", "reader", "LWardEngine$Reader;", true)
  | 1 => ("WardEngine", "policyReader", "LWardEngine$PolicyReader;", true)
  | 2 => ("WardEngine", "imageReader", "LWardEngine$ImageReader;", true)
  | 3 => ("WardEngine", "stepper", "LWardEngine$Stepper;", true)
  | 4 => ("WardEngine", "comparer", "LWardEngine$Comparer;", true)
  | 5 => ("WardEngine", "kept", "LWardEngine$Policy;", true)
  | 6 => ("WardEngine", "line", "Ljava/lang/StringBuilder;", true)
  | 7 => ("WardEngine", "rules", "LWardEngine$Policy;", false)
  | 8 => ("WardEngine", "hand", "LWardEngine$Machine;", false)
  | _ => ("WardEngine", "other", "LWardEngine$Machine;", false)
def t_Eng : Nat → FieldType := fun k => match k with
  | 0 => .object "WardEngine$Reader"
  | 1 => .object "WardEngine$PolicyReader"
  | 2 => .object "WardEngine$ImageReader"
  | 3 => .object "WardEngine$Stepper"
  | 4 => .object "WardEngine$Comparer"
  | 5 => .object "WardEngine$Policy"
  | 6 => .object "java/lang/StringBuilder"
  | 7 => .object "WardEngine$Policy"
  | 8 => .object "WardEngine$Machine"
  | _ => .object "WardEngine$Machine"
theorem n_Eng : ∀ a, a < 10 → ∀ b, b < 10 → a ≠ b → (F_Eng a).2.1 ≠ (F_Eng b).2.1 := by decide +kernel
theorem t_Eng_ok : ∀ k, k < 10 → parseFieldDescriptor (F_Eng k).2.2.1 = some (t_Eng k) := by decide +kernel
theorem i_Eng : ∀ w ∈ u_ws R_Eng F_Eng 10, w ∈ tb := by
  intro w hw
  have h : ∀ k, k < 10 → tables_1[([503, 505, 507, 509, 511, 513, 515, 517, 519, 521] : List Nat).getD k 0]? = some (u_lay R_Eng F_Eng k) ∧ goodWord (u_lay R_Eng F_Eng k) = true := by decide +kernel
  obtain ⟨k, hk, rfl⟩ := List.mem_map.mp hw
  exact tb_in _ (h k (List.mem_range.mp hk)).1 (h k (List.mem_range.mp hk)).2
def R_Rdr : String := "WardEngine$Reader"
def F_Rdr : u_T := fun k => match k with
  | 0 => ("WardEngine$Reader", "length", "I", false)
  | 1 => ("WardEngine$Reader", "token", "I", false)
  | 2 => ("WardEngine$Reader", "place", "I", false)
  | 3 => ("WardEngine$Reader", "value", "I", false)
  | 4 => ("WardEngine$Reader", "at", "I", false)
  | 5 => ("WardEngine$Reader", "current", "I", false)
  | 6 => ("WardEngine$Reader", "signs", "[C", true)
  | 7 => ("WardEngine$Reader", "tokens", "[I", true)
  | 8 => ("WardEngine$Reader", "places", "[I", true)
  | 9 => ("WardEngine$Reader", "values", "[I", true)
  | _ => ("WardEngine$Reader", "known", "[J", true)
def t_Rdr : Nat → FieldType := fun k => match k with
  | 0 => .int
  | 1 => .int
  | 2 => .int
  | 3 => .int
  | 4 => .int
  | 5 => .int
  | 6 => .array .char
  | 7 => .array .int
  | 8 => .array .int
  | 9 => .array .int
  | _ => .array .long
theorem n_Rdr : ∀ a, a < 11 → ∀ b, b < 11 → a ≠ b → (F_Rdr a).2.1 ≠ (F_Rdr b).2.1 := by decide +kernel
theorem t_Rdr_ok : ∀ k, k < 11 → parseFieldDescriptor (F_Rdr k).2.2.1 = some (t_Rdr k) := by decide +kernel
theorem i_Rdr : ∀ w ∈ u_ws R_Rdr F_Rdr 11, w ∈ tb := by
  intro w hw
  have h : ∀ k, k < 11 → tables_1[([123, 125, 127, 129, 131, 133, 135, 137, 139, 141, 143] : List Nat).getD k 0]? = some (u_lay R_Rdr F_Rdr k) ∧ goodWord (u_lay R_Rdr F_Rdr k) = true := by decide +kernel
  obtain ⟨k, hk, rfl⟩ := List.mem_map.mp hw
  exact tb_in _ (h k (List.mem_range.mp hk)).1 (h k (List.mem_range.mp hk)).2
def R_Prd : String := "WardEngine$PolicyReader"
def F_Prd : u_T := fun k => match k with
  | 0 => ("WardEngine$PolicyReader", "reader", "LWardEngine$Reader;", true)
  | 1 => ("WardEngine$PolicyReader", "target", "LWardEngine$Policy;", false)
  | 2 => ("WardEngine$PolicyReader", "ruled", "I", false)
  | 3 => ("WardEngine$PolicyReader", "named", "I", false)
  | _ => ("WardEngine$PolicyReader", "told", "I", false)
def t_Prd : Nat → FieldType := fun k => match k with
  | 0 => .object "WardEngine$Reader"
  | 1 => .object "WardEngine$Policy"
  | 2 => .int
  | 3 => .int
  | _ => .int
theorem n_Prd : ∀ a, a < 5 → ∀ b, b < 5 → a ≠ b → (F_Prd a).2.1 ≠ (F_Prd b).2.1 := by decide +kernel
theorem t_Prd_ok : ∀ k, k < 5 → parseFieldDescriptor (F_Prd k).2.2.1 = some (t_Prd k) := by decide +kernel
theorem i_Prd : ∀ w ∈ u_ws R_Prd F_Prd 5, w ∈ tb := by
  intro w hw
  have h : ∀ k, k < 5 → tables_1[([202, 204, 206, 208, 210] : List Nat).getD k 0]? = some (u_lay R_Prd F_Prd k) ∧ goodWord (u_lay R_Prd F_Prd k) = true := by decide +kernel
  obtain ⟨k, hk, rfl⟩ := List.mem_map.mp hw
  exact tb_in _ (h k (List.mem_range.mp hk)).1 (h k (List.mem_range.mp hk)).2
def R_Pol : String := "WardEngine$Policy"
def F_Pol : u_T := fun k => match k with
  | 0 => ("WardEngine$Policy", "length", "I", false)
  | 1 => ("WardEngine$Policy", "steps", "[I", true)
  | 2 => ("WardEngine$Policy", "extras", "[I", true)
  | 3 => ("WardEngine$Policy", "starts", "[I", true)
  | 4 => ("WardEngine$Policy", "stops", "[I", true)
  | 5 => ("WardEngine$Policy", "named", "[I", true)
  | _ => ("WardEngine$Policy", "told", "[I", true)
def t_Pol : Nat → FieldType := fun k => match k with
  | 0 => .int
  | 1 => .array .int
  | 2 => .array .int
  | 3 => .array .int
  | 4 => .array .int
  | 5 => .array .int
  | _ => .array .int
theorem n_Pol : ∀ a, a < 7 → ∀ b, b < 7 → a ≠ b → (F_Pol a).2.1 ≠ (F_Pol b).2.1 := by decide +kernel
theorem t_Pol_ok : ∀ k, k < 7 → parseFieldDescriptor (F_Pol k).2.2.1 = some (t_Pol k) := by decide +kernel
theorem i_Pol : ∀ w ∈ u_ws R_Pol F_Pol 7, w ∈ tb := by
  intro w hw
  have h : ∀ k, k < 7 → tables_1[([182, 184, 186, 188, 190, 192, 194] : List Nat).getD k 0]? = some (u_lay R_Pol F_Pol k) ∧ goodWord (u_lay R_Pol F_Pol k) = true := by decide +kernel
  obtain ⟨k, hk, rfl⟩ := List.mem_map.mp hw
  exact tb_in _ (h k (List.mem_range.mp hk)).1 (h k (List.mem_range.mp hk)).2
def R_Img : String := "WardEngine$ImageReader"
def F_Img : u_T := fun k => match k with
  | 0 => ("WardEngine$ImageReader", "reader", "LWardEngine$Reader;", true)
  | 1 => ("WardEngine$ImageReader", "target", "LWardEngine$Machine;", false)
  | 2 => ("WardEngine$ImageReader", "nextPlace", "I", false)
  | 3 => ("WardEngine$ImageReader", "number", "I", false)
  | _ => ("WardEngine$ImageReader", "fault", "I", false)
def t_Img : Nat → FieldType := fun k => match k with
  | 0 => .object "WardEngine$Reader"
  | 1 => .object "WardEngine$Machine"
  | 2 => .int
  | 3 => .int
  | _ => .int
theorem n_Img : ∀ a, a < 5 → ∀ b, b < 5 → a ≠ b → (F_Img a).2.1 ≠ (F_Img b).2.1 := by decide +kernel
theorem t_Img_ok : ∀ k, k < 5 → parseFieldDescriptor (F_Img k).2.2.1 = some (t_Img k) := by decide +kernel
theorem i_Img : ∀ w ∈ u_ws R_Img F_Img 5, w ∈ tb := by
  intro w hw
  have h : ∀ k, k < 5 → tables_1[([345, 347, 349, 351, 353] : List Nat).getD k 0]? = some (u_lay R_Img F_Img k) ∧ goodWord (u_lay R_Img F_Img k) = true := by decide +kernel
  obtain ⟨k, hk, rfl⟩ := List.mem_map.mp hw
  exact tb_in _ (h k (List.mem_range.mp hk)).1 (h k (List.mem_range.mp hk)).2
def R_Mch : String := "WardEngine$Machine"
def F_Mch : u_T := fun k => match k with
  | 0 => ("WardEngine$Machine", "clear", "I", false)
  | 1 => ("WardEngine$Machine", "before", "I", false)
  | 2 => ("WardEngine$Machine", "blame", "I", false)
  | 3 => ("WardEngine$Machine", "code", "[I", true)
  | 4 => ("WardEngine$Machine", "codeTags", "[I", true)
  | 5 => ("WardEngine$Machine", "words", "[I", true)
  | 6 => ("WardEngine$Machine", "helds", "[I", true)
  | 7 => ("WardEngine$Machine", "owners", "[I", true)
  | 8 => ("WardEngine$Machine", "registers", "[I", true)
  | 9 => ("WardEngine$Machine", "registerTags", "[I", true)
  | 10 => ("WardEngine$Machine", "inputs", "[I", true)
  | 11 => ("WardEngine$Machine", "inputTags", "[I", true)
  | 12 => ("WardEngine$Machine", "outputs", "[I", true)
  | 13 => ("WardEngine$Machine", "firsts", "[I", true)
  | 14 => ("WardEngine$Machine", "seconds", "[I", true)
  | 15 => ("WardEngine$Machine", "figures", "[I", true)
  | 16 => ("WardEngine$Machine", "counts", "[I", true)
  | 17 => ("WardEngine$Machine", "cache", "LWardEngine$Ring;", true)
  | _ => ("WardEngine$Machine", "journal", "LWardEngine$Ring;", true)
def t_Mch : Nat → FieldType := fun k => match k with
  | 0 => .int
  | 1 => .int
  | 2 => .int
  | 3 => .array .int
  | 4 => .array .int
  | 5 => .array .int
  | 6 => .array .int
  | 7 => .array .int
  | 8 => .array .int
  | 9 => .array .int
  | 10 => .array .int
  | 11 => .array .int
  | 12 => .array .int
  | 13 => .array .int
  | 14 => .array .int
  | 15 => .array .int
  | 16 => .array .int
  | 17 => .object "WardEngine$Ring"
  | _ => .object "WardEngine$Ring"
theorem n_Mch : ∀ a, a < 19 → ∀ b, b < 19 → a ≠ b → (F_Mch a).2.1 ≠ (F_Mch b).2.1 := by decide +kernel
theorem t_Mch_ok : ∀ k, k < 19 → parseFieldDescriptor (F_Mch k).2.2.1 = some (t_Mch k) := by decide +kernel
theorem i_Mch : ∀ w ∈ u_ws R_Mch F_Mch 19, w ∈ tb := by
  intro w hw
  have h : ∀ k, k < 19 → tables_1[([301, 303, 305, 307, 309, 311, 313, 315, 317, 319, 321, 323, 325, 327, 329, 331, 333, 335, 337] : List Nat).getD k 0]? = some (u_lay R_Mch F_Mch k) ∧ goodWord (u_lay R_Mch F_Mch k) = true := by decide +kernel
  obtain ⟨k, hk, rfl⟩ := List.mem_map.mp hw
  exact tb_in _ (h k (List.mem_range.mp hk)).1 (h k (List.mem_range.mp hk)).2
def R_Rng : String := "WardEngine$Ring"
def F_Rng : u_T := fun k => match k with
  | 0 => ("WardEngine$Ring", "size", "I", false)
  | 1 => ("WardEngine$Ring", "first", "I", false)
  | 2 => ("WardEngine$Ring", "most", "I", true)
  | 3 => ("WardEngine$Ring", "width", "I", true)
  | _ => ("WardEngine$Ring", "cells", "[I", true)
def t_Rng : Nat → FieldType := fun k => match k with
  | 0 => .int
  | 1 => .int
  | 2 => .int
  | 3 => .int
  | _ => .array .int
theorem n_Rng : ∀ a, a < 5 → ∀ b, b < 5 → a ≠ b → (F_Rng a).2.1 ≠ (F_Rng b).2.1 := by decide +kernel
theorem t_Rng_ok : ∀ k, k < 5 → parseFieldDescriptor (F_Rng k).2.2.1 = some (t_Rng k) := by decide +kernel
theorem i_Rng : ∀ w ∈ u_ws R_Rng F_Rng 5, w ∈ tb := by
  intro w hw
  have h : ∀ k, k < 5 → tables_1[([237, 239, 241, 243, 245] : List Nat).getD k 0]? = some (u_lay R_Rng F_Rng k) ∧ goodWord (u_lay R_Rng F_Rng k) = true := by decide +kernel
  obtain ⟨k, hk, rfl⟩ := List.mem_map.mp hw
  exact tb_in _ (h k (List.mem_range.mp hk)).1 (h k (List.mem_range.mp hk)).2
def R_Stp : String := "WardEngine$Stepper"
def F_Stp : u_T := fun k => match k with
  | 0 => ("WardEngine$Stepper", "worker", "LWardEngine$Worker;", true)
  | 1 => ("WardEngine$Stepper", "entry", "[I", true)
  | 2 => ("WardEngine$Stepper", "place", "I", false)
  | 3 => ("WardEngine$Stepper", "codeTag", "I", false)
  | 4 => ("WardEngine$Stepper", "kind", "I", false)
  | 5 => ("WardEngine$Stepper", "a", "I", false)
  | 6 => ("WardEngine$Stepper", "b", "I", false)
  | 7 => ("WardEngine$Stepper", "c", "I", false)
  | 8 => ("WardEngine$Stepper", "n", "I", false)
  | 9 => ("WardEngine$Stepper", "reached", "I", false)
  | 10 => ("WardEngine$Stepper", "made", "I", false)
  | 11 => ("WardEngine$Stepper", "how", "I", false)
  | 12 => ("WardEngine$Stepper", "tag", "I", false)
  | 13 => ("WardEngine$Stepper", "next", "I", false)
  | _ => ("WardEngine$Stepper", "owner", "I", false)
def t_Stp : Nat → FieldType := fun k => match k with
  | 0 => .object "WardEngine$Worker"
  | 1 => .array .int
  | 2 => .int
  | 3 => .int
  | 4 => .int
  | 5 => .int
  | 6 => .int
  | 7 => .int
  | 8 => .int
  | 9 => .int
  | 10 => .int
  | 11 => .int
  | 12 => .int
  | 13 => .int
  | _ => .int
theorem n_Stp : ∀ a, a < 15 → ∀ b, b < 15 → a ≠ b → (F_Stp a).2.1 ≠ (F_Stp b).2.1 := by decide +kernel
theorem t_Stp_ok : ∀ k, k < 15 → parseFieldDescriptor (F_Stp k).2.2.1 = some (t_Stp k) := by decide +kernel
theorem i_Stp : ∀ w ∈ u_ws R_Stp F_Stp 15, w ∈ tb := by
  intro w hw
  have h : ∀ k, k < 15 → tables_1[([395, 397, 399, 401, 403, 405, 407, 409, 411, 413, 415, 417, 419, 421, 423] : List Nat).getD k 0]? = some (u_lay R_Stp F_Stp k) ∧ goodWord (u_lay R_Stp F_Stp k) = true := by decide +kernel
  obtain ⟨k, hk, rfl⟩ := List.mem_map.mp hw
  exact tb_in _ (h k (List.mem_range.mp hk)).1 (h k (List.mem_range.mp hk)).2
def R_Wrk : String := "WardEngine$Worker"
def F_Wrk : u_T := fun k => match k with
  | 0 => ("WardEngine$Worker", "record", "[I", true)
  | 1 => ("WardEngine$Worker", "stack", "[I", true)
  | _ => ("WardEngine$Worker", "height", "I", false)
def t_Wrk : Nat → FieldType := fun k => match k with
  | 0 => .array .int
  | 1 => .array .int
  | _ => .int
theorem n_Wrk : ∀ a, a < 3 → ∀ b, b < 3 → a ≠ b → (F_Wrk a).2.1 ≠ (F_Wrk b).2.1 := by decide +kernel
theorem t_Wrk_ok : ∀ k, k < 3 → parseFieldDescriptor (F_Wrk k).2.2.1 = some (t_Wrk k) := by decide +kernel
theorem i_Wrk : ∀ w ∈ u_ws R_Wrk F_Wrk 3, w ∈ tb := by
  intro w hw
  have h : ∀ k, k < 3 → tables_1[([373, 375, 377] : List Nat).getD k 0]? = some (u_lay R_Wrk F_Wrk k) ∧ goodWord (u_lay R_Wrk F_Wrk k) = true := by decide +kernel
  obtain ⟨k, hk, rfl⟩ := List.mem_map.mp hw
  exact tb_in _ (h k (List.mem_range.mp hk)).1 (h k (List.mem_range.mp hk)).2
def R_Cmp : String := "WardEngine$Comparer"
def F_Cmp : u_T := fun k => match k with
  | 0 => ("WardEngine$Comparer", "hasFound", "Z", false)
  | 1 => ("WardEngine$Comparer", "found", "[I", true)
  | 2 => ("WardEngine$Comparer", "ours", "LWardEngine$Worker;", true)
  | 3 => ("WardEngine$Comparer", "theirs", "LWardEngine$Worker;", true)
  | 4 => ("WardEngine$Comparer", "varied", "I", false)
  | 5 => ("WardEngine$Comparer", "most", "I", false)
  | _ => ("WardEngine$Comparer", "cases", "I", false)
def t_Cmp : Nat → FieldType := fun k => match k with
  | 0 => .boolean
  | 1 => .array .int
  | 2 => .object "WardEngine$Worker"
  | 3 => .object "WardEngine$Worker"
  | 4 => .int
  | 5 => .int
  | _ => .int
theorem n_Cmp : ∀ a, a < 7 → ∀ b, b < 7 → a ≠ b → (F_Cmp a).2.1 ≠ (F_Cmp b).2.1 := by decide +kernel
theorem t_Cmp_ok : ∀ k, k < 7 → parseFieldDescriptor (F_Cmp k).2.2.1 = some (t_Cmp k) := by decide +kernel
theorem i_Cmp : ∀ w ∈ u_ws R_Cmp F_Cmp 7, w ∈ tb := by
  intro w hw
  have h : ∀ k, k < 7 → tables_1[([443, 445, 447, 449, 451, 453, 455] : List Nat).getD k 0]? = some (u_lay R_Cmp F_Cmp k) ∧ goodWord (u_lay R_Cmp F_Cmp k) = true := by decide +kernel
  obtain ⟨k, hk, rfl⟩ := List.mem_map.mp hw
  exact tb_in _ (h k (List.mem_range.mp hk)).1 (h k (List.mem_range.mp hk)).2
def R_Mod : String := "WardEngineModel"
def F_Mod : u_T := fun k => match k with
  | 0 => ("WardEngineModel", "thrown", "I", false)
  | 1 => ("WardEngineModel", "signs", "[I", true)
  | 2 => ("WardEngineModel", "size", "I", false)
  | 3 => ("WardEngineModel", "words", "[J", true)
  | 4 => ("WardEngineModel", "place", "I", false)
  | 5 => ("WardEngineModel", "imageInputs", "I", false)
  | 6 => ("WardEngineModel", "doing", "Z", false)
  | 7 => ("WardEngineModel", "number", "I", false)
  | 8 => ("WardEngineModel", "listed", "I", false)
  | 9 => ("WardEngineModel", "list", "[I", true)
  | 10 => ("WardEngineModel", "token", "I", false)
  | 11 => ("WardEngineModel", "value", "I", false)
  | 12 => ("WardEngineModel", "tokenAt", "I", false)
  | 13 => ("WardEngineModel", "at", "I", false)
  | 14 => ("WardEngineModel", "fault", "I", false)
  | 15 => ("WardEngineModel", "codes", "I", false)
  | 16 => ("WardEngineModel", "code0", "[I", true)
  | 17 => ("WardEngineModel", "codeValue", "[I", true)
  | 18 => ("WardEngineModel", "statements", "I", false)
  | 19 => ("WardEngineModel", "statementKind", "[I", true)
  | 20 => ("WardEngineModel", "statementAt", "[I", true)
  | 21 => ("WardEngineModel", "statementFrom", "[I", true)
  | 22 => ("WardEngineModel", "statementTo", "[I", true)
  | 23 => ("WardEngineModel", "rules", "I", false)
  | 24 => ("WardEngineModel", "ruleFrom", "[I", true)
  | 25 => ("WardEngineModel", "ruleTo", "[I", true)
  | 26 => ("WardEngineModel", "ruleOf", "[I", true)
  | 27 => ("WardEngineModel", "named", "[I", true)
  | 28 => ("WardEngineModel", "open", "I", false)
  | 29 => ("WardEngineModel", "piled", "I", false)
  | 30 => ("WardEngineModel", "pile", "[I", true)
  | 31 => ("WardEngineModel", "pileAt", "[I", true)
  | 32 => ("WardEngineModel", "keptSize", "I", false)
  | 33 => ("WardEngineModel", "kept", "[I", true)
  | 34 => ("WardEngineModel", "clear", "I", false)
  | 35 => ("WardEngineModel", "code", "[I", true)
  | 36 => ("WardEngineModel", "codeTags", "[I", true)
  | 37 => ("WardEngineModel", "ints", "[I", true)
  | 38 => ("WardEngineModel", "held", "[I", true)
  | 39 => ("WardEngineModel", "owners", "[I", true)
  | 40 => ("WardEngineModel", "registers", "[I", true)
  | 41 => ("WardEngineModel", "registerTags", "[I", true)
  | 42 => ("WardEngineModel", "pc", "I", false)
  | 43 => ("WardEngineModel", "pcTag", "I", false)
  | 44 => ("WardEngineModel", "before", "I", false)
  | 45 => ("WardEngineModel", "inputs", "I", false)
  | 46 => ("WardEngineModel", "inputValues", "[I", true)
  | 47 => ("WardEngineModel", "inputTags", "[I", true)
  | 48 => ("WardEngineModel", "outputs", "I", false)
  | 49 => ("WardEngineModel", "output", "[I", true)
  | 50 => ("WardEngineModel", "state", "I", false)
  | 51 => ("WardEngineModel", "done", "I", false)
  | 52 => ("WardEngineModel", "makes", "I", false)
  | 53 => ("WardEngineModel", "questions", "I", false)
  | 54 => ("WardEngineModel", "hits", "I", false)
  | 55 => ("WardEngineModel", "pairs", "I", false)
  | 56 => ("WardEngineModel", "firsts", "[I", true)
  | 57 => ("WardEngineModel", "seconds", "[I", true)
  | 58 => ("WardEngineModel", "cached", "I", false)
  | 59 => ("WardEngineModel", "nextPlace", "I", false)
  | 60 => ("WardEngineModel", "cache", "[I", true)
  | 61 => ("WardEngineModel", "answers", "[I", true)
  | 62 => ("WardEngineModel", "question", "[I", true)
  | 63 => ("WardEngineModel", "journaled", "I", false)
  | 64 => ("WardEngineModel", "entries", "[I", true)
  | 65 => ("WardEngineModel", "counts", "[I", true)
  | 66 => ("WardEngineModel", "blame", "I", false)
  | 67 => ("WardEngineModel", "how", "I", false)
  | 68 => ("WardEngineModel", "blamed", "I", false)
  | 69 => ("WardEngineModel", "casing", "Z", false)
  | 70 => ("WardEngineModel", "caseValue", "[I", true)
  | 71 => ("WardEngineModel", "hasWitness", "Z", false)
  | 72 => ("WardEngineModel", "witness", "[I", true)
  | 73 => ("WardEngineModel", "scalars", "[I", true)
  | 74 => ("WardEngineModel", "other", "[I", true)
  | 75 => ("WardEngineModel", "kind", "I", false)
  | 76 => ("WardEngineModel", "a", "I", false)
  | 77 => ("WardEngineModel", "b", "I", false)
  | 78 => ("WardEngineModel", "c", "I", false)
  | 79 => ("WardEngineModel", "n", "I", false)
  | 80 => ("WardEngineModel", "word", "I", false)
  | 81 => ("WardEngineModel", "there", "Z", false)
  | 82 => ("WardEngineModel", "answer", "I", false)
  | 83 => ("WardEngineModel", "tag", "I", false)
  | 84 => ("WardEngineModel", "next", "I", false)
  | 85 => ("WardEngineModel", "owner", "I", false)
  | 86 => ("WardEngineModel", "top", "I", false)
  | _ => ("WardEngineModel", "stack", "[I", true)
def t_Mod : Nat → FieldType := fun k => match k with
  | 0 => .int
  | 1 => .array .int
  | 2 => .int
  | 3 => .array .long
  | 4 => .int
  | 5 => .int
  | 6 => .boolean
  | 7 => .int
  | 8 => .int
  | 9 => .array .int
  | 10 => .int
  | 11 => .int
  | 12 => .int
  | 13 => .int
  | 14 => .int
  | 15 => .int
  | 16 => .array .int
  | 17 => .array .int
  | 18 => .int
  | 19 => .array .int
  | 20 => .array .int
  | 21 => .array .int
  | 22 => .array .int
  | 23 => .int
  | 24 => .array .int
  | 25 => .array .int
  | 26 => .array .int
  | 27 => .array .int
  | 28 => .int
  | 29 => .int
  | 30 => .array .int
  | 31 => .array .int
  | 32 => .int
  | 33 => .array .int
  | 34 => .int
  | 35 => .array .int
  | 36 => .array .int
  | 37 => .array .int
  | 38 => .array .int
  | 39 => .array .int
  | 40 => .array .int
  | 41 => .array .int
  | 42 => .int
  | 43 => .int
  | 44 => .int
  | 45 => .int
  | 46 => .array .int
  | 47 => .array .int
  | 48 => .int
  | 49 => .array .int
  | 50 => .int
  | 51 => .int
  | 52 => .int
  | 53 => .int
  | 54 => .int
  | 55 => .int
  | 56 => .array .int
  | 57 => .array .int
  | 58 => .int
  | 59 => .int
  | 60 => .array .int
  | 61 => .array .int
  | 62 => .array .int
  | 63 => .int
  | 64 => .array .int
  | 65 => .array .int
  | 66 => .int
  | 67 => .int
  | 68 => .int
  | 69 => .boolean
  | 70 => .array .int
  | 71 => .boolean
  | 72 => .array .int
  | 73 => .array .int
  | 74 => .array .int
  | 75 => .int
  | 76 => .int
  | 77 => .int
  | 78 => .int
  | 79 => .int
  | 80 => .int
  | 81 => .boolean
  | 82 => .int
  | 83 => .int
  | 84 => .int
  | 85 => .int
  | 86 => .int
  | _ => .array .int
theorem n_Mod : ∀ a, a < 88 → ∀ b, b < 88 → a ≠ b → (F_Mod a).2.1 ≠ (F_Mod b).2.1 := by decide +kernel
theorem t_Mod_ok : ∀ k, k < 88 → parseFieldDescriptor (F_Mod k).2.2.1 = some (t_Mod k) := by decide +kernel
theorem i_Mod : ∀ w ∈ u_ws R_Mod F_Mod 88, w ∈ tb := by
  intro w hw
  have h : ∀ k, k < 88 → tables_1[([1801, 1803, 1805, 1807, 1809, 1811, 1813, 1815, 1817, 1819, 1821, 1823, 1825, 1827, 1829, 1831, 1833, 1835, 1837, 1839, 1841, 1843, 1845, 1847, 1849, 1851, 1853, 1855, 1857, 1859, 1861, 1863, 1865, 1867, 1869, 1871, 1873, 1875, 1877, 1879, 1881, 1883, 1885, 1887, 1889, 1891, 1893, 1895, 1897, 1899, 1901, 1903, 1905, 1907, 1909, 1911, 1913, 1915, 1917, 1919, 1921, 1923, 1925, 1927, 1929, 1931, 1933, 1935, 1937, 1939, 1941, 1943, 1945, 1947, 1949, 1951, 1953, 1955, 1957, 1959, 1961, 1963, 1965, 1967, 1969, 1971, 1973, 1975] : List Nat).getD k 0]? = some (u_lay R_Mod F_Mod k) ∧ goodWord (u_lay R_Mod F_Mod k) = true := by decide +kernel
  obtain ⟨k, hk, rfl⟩ := List.mem_map.mp hw
  exact tb_in _ (h k (List.mem_range.mp hk)).1 (h k (List.mem_range.mp hk)).2
def R_Sbd : String := "java/lang/StringBuilder"
def F_Sbd : u_T := fun k => match k with
  | 0 => ("java/lang/AbstractStringBuilder", "value", "[B", false)
  | 1 => ("java/lang/AbstractStringBuilder", "coder", "B", false)
  | 2 => ("java/lang/AbstractStringBuilder", "maybeLatin1", "Z", false)
  | _ => ("java/lang/AbstractStringBuilder", "count", "I", false)
def t_Sbd : Nat → FieldType := fun k => match k with
  | 0 => .array .byte
  | 1 => .byte
  | 2 => .boolean
  | _ => .int
theorem n_Sbd : ∀ a, a < 4 → ∀ b, b < 4 → a ≠ b → (F_Sbd a).2.1 ≠ (F_Sbd b).2.1 := by decide +kernel
theorem t_Sbd_ok : ∀ k, k < 4 → parseFieldDescriptor (F_Sbd k).2.2.1 = some (t_Sbd k) := by decide +kernel
theorem i_Sbd : ∀ w ∈ u_ws R_Sbd F_Sbd 4, w ∈ tb := by
  intro w hw
  have h : ∀ k, k < 4 → tables_1[([482, 484, 486, 488] : List Nat).getD k 0]? = some (u_lay R_Sbd F_Sbd k) ∧ goodWord (u_lay R_Sbd F_Sbd k) = true := by decide +kernel
  obtain ⟨k, hk, rfl⟩ := List.mem_map.mp hw
  exact tb_in _ (h k (List.mem_range.mp hk)).1 (h k (List.mem_range.mp hk)).2
abbrev vcl : List vw_C := [(R_Eng, F_Eng, 10), (R_Rdr, F_Rdr, 11), (R_Prd, F_Prd, 5), (R_Pol, F_Pol, 7), (R_Img, F_Img, 5), (R_Mch, F_Mch, 19), (R_Rng, F_Rng, 5), (R_Stp, F_Stp, 15), (R_Wrk, F_Wrk, 3), (R_Cmp, F_Cmp, 7), (R_Mod, F_Mod, 88), (R_Sbd, F_Sbd, 4)]
def tyF : Nat → Nat → FieldType := fun ci => match ci with
  | 0 => t_Eng
  | 1 => t_Rdr
  | 2 => t_Prd
  | 3 => t_Pol
  | 4 => t_Img
  | 5 => t_Mch
  | 6 => t_Rng
  | 7 => t_Stp
  | 8 => t_Wrk
  | 9 => t_Cmp
  | 10 => t_Mod
  | _ => t_Sbd
def nmF : Nat → Nat := fun ci => ([10, 11, 5, 7, 5, 19, 5, 15, 3, 7, 88, 4] : List Nat).getD ci 0
/-- the cells in the order in which they are made: arrays (component, length), objects (class number) -/
def shL : List ((FieldType × Nat) ⊕ Nat) := [.inr 0, .inr 1, .inl (.char, 900), .inl (.int, 901), .inl (.int, 901), .inl (.int, 901), .inl (.long, 50), .inr 2, .inr 3, .inl (.int, 900), .inl (.int, 900), .inl (.int, 22), .inl (.int, 22), .inl (.int, 22), .inl (.int, 22), .inr 4, .inr 5, .inl (.int, 64), .inl (.int, 64), .inl (.int, 96), .inl (.int, 96), .inl (.int, 96), .inl (.int, 9), .inl (.int, 9), .inl (.int, 16), .inl (.int, 16), .inl (.int, 40), .inl (.int, 60), .inl (.int, 60), .inl (.int, 8), .inl (.int, 88), .inr 6, .inl (.int, 200), .inr 6, .inl (.int, 96), .inr 7, .inr 8, .inl (.int, 25), .inl (.int, 64), .inl (.int, 6), .inr 9, .inl (.int, 15), .inr 8, .inl (.int, 25), .inl (.int, 64), .inr 8, .inl (.int, 25), .inl (.int, 64), .inr 3, .inl (.int, 900), .inl (.int, 900), .inl (.int, 22), .inl (.int, 22), .inl (.int, 22), .inl (.int, 22), .inr 11, .inl (.byte, 16), .inr 3, .inl (.int, 900), .inl (.int, 900), .inl (.int, 22), .inl (.int, 22), .inl (.int, 22), .inl (.int, 22), .inr 5, .inl (.int, 64), .inl (.int, 64), .inl (.int, 96), .inl (.int, 96), .inl (.int, 96), .inl (.int, 9), .inl (.int, 9), .inl (.int, 16), .inl (.int, 16), .inl (.int, 40), .inl (.int, 60), .inl (.int, 60), .inl (.int, 8), .inl (.int, 88), .inr 6, .inl (.int, 200), .inr 6, .inl (.int, 96), .inr 5, .inl (.int, 64), .inl (.int, 64), .inl (.int, 96), .inl (.int, 96), .inl (.int, 96), .inl (.int, 9), .inl (.int, 9), .inl (.int, 16), .inl (.int, 16), .inl (.int, 40), .inl (.int, 60), .inl (.int, 60), .inl (.int, 8), .inl (.int, 88), .inr 6, .inl (.int, 200), .inr 6, .inl (.int, 96), .inr 10, .inl (.int, 900), .inl (.long, 70), .inl (.int, 100), .inl (.int, 2000), .inl (.int, 2000), .inl (.int, 600), .inl (.int, 300), .inl (.int, 600), .inl (.int, 600), .inl (.int, 602), .inl (.int, 602), .inl (.int, 44), .inl (.int, 602), .inl (.int, 1000), .inl (.int, 1000), .inl (.int, 900), .inl (.int, 64), .inl (.int, 64), .inl (.int, 96), .inl (.int, 96), .inl (.int, 96), .inl (.int, 8), .inl (.int, 8), .inl (.int, 16), .inl (.int, 16), .inl (.int, 40), .inl (.int, 60), .inl (.int, 60), .inl (.int, 128), .inl (.int, 40), .inl (.int, 16), .inl (.int, 96), .inl (.int, 88), .inl (.int, 15), .inl (.int, 15), .inl (.int, 16), .inl (.int, 996), .inl (.int, 1000), .inl (.long, 1)]
def sh (a : Nat) : (FieldType × Nat) ⊕ Nat := shL.getD a (if a % 2 = 0 then .inl (.long, 0) else .inr 1)
abbrev NN : Nat := 142
