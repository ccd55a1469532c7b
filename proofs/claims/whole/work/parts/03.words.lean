def GG : List Cond := lw_tbl.filter goodWord
theorem memS {i : Nat} {w : Cond} (h : (k2_sels lw_privs)[i]? = some w) (hg : goodWord w = true) : w ∈ GG := List.mem_filter.mpr ⟨List.mem_append_left _ (List.mem_of_getElem? h), hg⟩
theorem mem1 {i : Nat} {w : Cond} (h : tables_1_1[i]? = some w) (hg : goodWord w = true) : w ∈ GG := List.mem_filter.mpr ⟨List.mem_append_right _ (List.mem_append_left _ (List.mem_of_getElem? h)), hg⟩
theorem mem2 {i : Nat} {w : Cond} (h : tables_1_2[i]? = some w) (hg : goodWord w = true) : w ∈ GG := List.mem_filter.mpr ⟨List.mem_append_right _ (List.mem_append_right _ (List.mem_append_left _ (List.mem_of_getElem? h))), hg⟩
theorem mem3 {i : Nat} {w : Cond} (h : tables_1_3[i]? = some w) (hg : goodWord w = true) : w ∈ GG := List.mem_filter.mpr ⟨List.mem_append_right _ (List.mem_append_right _ (List.mem_append_right _ (List.mem_append_left _ (List.mem_of_getElem? h)))), hg⟩
theorem mem4 {i : Nat} {w : Cond} (h : tables_1_4[i]? = some w) (hg : goodWord w = true) : w ∈ GG := List.mem_filter.mpr ⟨List.mem_append_right _ (List.mem_append_right _ (List.mem_append_right _ (List.mem_append_right _ (List.mem_of_getElem? h)))), hg⟩
theorem GG_good : ∀ w ∈ GG, ((w.onTables && w.keeps) = true ∨ ∃ ty, w = .arrayClass ty) := fun w h => good_of_word (List.mem_filter.mp h).2
theorem GG_tbl : ∀ w ∈ GG, w ∈ lw_tbl := fun w h => (List.mem_filter.mp h).1
def RN (o : Nat) : String := match o with
  | 0 => "ChordFolds$Census"
  | 1 => "ChordFolds$Drawing"
  | 2 => "ChordFolds$Folder"
  | 3 => "ChordFolds$SignRow"
  | 4 => "ChordFolds$Strand"
  | 5 => "ChordFolds"
  | 6 => "ChordFoldsModel"
  | 7 => "ChordFoldsLaw"
  | _ => "java/util/Arrays"
def TT (o : Nat) : u_T := match o with
  | 0 => TX0
  | 1 => TX1
  | 2 => TX2
  | 3 => TX3
  | 4 => TX4
  | 5 => TX5
  | _ => TX6
def NN (o : Nat) : Nat := match o with
  | 0 => 5
  | 1 => 6
  | 2 => 9
  | 3 => 4
  | 4 => 5
  | 5 => 5
  | _ => 20
theorem in_X0 : ∀ w ∈ u_ws RX0 TX0 5, w ∈ GG := by
  show ∀ w ∈ [u_lay RX0 TX0 0, u_lay RX0 TX0 1, u_lay RX0 TX0 2, u_lay RX0 TX0 3, u_lay RX0 TX0 4], w ∈ GG
  exact List.forall_mem_cons.mpr ⟨mem1 (i := 66) rfl rfl, List.forall_mem_cons.mpr ⟨mem1 (i := 68) rfl rfl, List.forall_mem_cons.mpr ⟨mem1 (i := 70) rfl rfl, List.forall_mem_cons.mpr ⟨mem1 (i := 72) rfl rfl, List.forall_mem_cons.mpr ⟨mem1 (i := 74) rfl rfl, fun _ h => absurd h List.not_mem_nil⟩⟩⟩⟩⟩
theorem in_X1 : ∀ w ∈ u_ws RX1 TX1 6, w ∈ GG := by
  show ∀ w ∈ [u_lay RX1 TX1 0, u_lay RX1 TX1 1, u_lay RX1 TX1 2, u_lay RX1 TX1 3, u_lay RX1 TX1 4, u_lay RX1 TX1 5], w ∈ GG
  exact List.forall_mem_cons.mpr ⟨mem1 (i := 38) rfl rfl, List.forall_mem_cons.mpr ⟨mem1 (i := 40) rfl rfl, List.forall_mem_cons.mpr ⟨mem1 (i := 42) rfl rfl, List.forall_mem_cons.mpr ⟨mem1 (i := 44) rfl rfl, List.forall_mem_cons.mpr ⟨mem1 (i := 46) rfl rfl, List.forall_mem_cons.mpr ⟨mem1 (i := 48) rfl rfl, fun _ h => absurd h List.not_mem_nil⟩⟩⟩⟩⟩⟩
theorem in_X2 : ∀ w ∈ u_ws RX2 TX2 9, w ∈ GG := by
  show ∀ w ∈ [u_lay RX2 TX2 0, u_lay RX2 TX2 1, u_lay RX2 TX2 2, u_lay RX2 TX2 3, u_lay RX2 TX2 4, u_lay RX2 TX2 5, u_lay RX2 TX2 6, u_lay RX2 TX2 7, u_lay RX2 TX2 8], w ∈ GG
  exact List.forall_mem_cons.mpr ⟨mem1 (i := 147) rfl rfl, List.forall_mem_cons.mpr ⟨mem1 (i := 149) rfl rfl, List.forall_mem_cons.mpr ⟨mem1 (i := 151) rfl rfl, List.forall_mem_cons.mpr ⟨mem1 (i := 153) rfl rfl, List.forall_mem_cons.mpr ⟨mem1 (i := 155) rfl rfl, List.forall_mem_cons.mpr ⟨mem1 (i := 157) rfl rfl, List.forall_mem_cons.mpr ⟨mem1 (i := 159) rfl rfl, List.forall_mem_cons.mpr ⟨mem1 (i := 161) rfl rfl, List.forall_mem_cons.mpr ⟨mem1 (i := 163) rfl rfl, fun _ h => absurd h List.not_mem_nil⟩⟩⟩⟩⟩⟩⟩⟩⟩
theorem in_X3 : ∀ w ∈ u_ws RX3 TX3 4, w ∈ GG := by
  show ∀ w ∈ [u_lay RX3 TX3 0, u_lay RX3 TX3 1, u_lay RX3 TX3 2, u_lay RX3 TX3 3], w ∈ GG
  exact List.forall_mem_cons.mpr ⟨mem1 (i := 90) rfl rfl, List.forall_mem_cons.mpr ⟨mem1 (i := 92) rfl rfl, List.forall_mem_cons.mpr ⟨mem1 (i := 94) rfl rfl, List.forall_mem_cons.mpr ⟨mem1 (i := 96) rfl rfl, fun _ h => absurd h List.not_mem_nil⟩⟩⟩⟩
theorem in_X4 : ∀ w ∈ u_ws RX4 TX4 5, w ∈ GG := by
  show ∀ w ∈ [u_lay RX4 TX4 0, u_lay RX4 TX4 1, u_lay RX4 TX4 2, u_lay RX4 TX4 3, u_lay RX4 TX4 4], w ∈ GG
  exact List.forall_mem_cons.mpr ⟨mem1 (i := 119) rfl rfl, List.forall_mem_cons.mpr ⟨mem1 (i := 121) rfl rfl, List.forall_mem_cons.mpr ⟨mem1 (i := 123) rfl rfl, List.forall_mem_cons.mpr ⟨mem1 (i := 125) rfl rfl, List.forall_mem_cons.mpr ⟨mem1 (i := 127) rfl rfl, fun _ h => absurd h List.not_mem_nil⟩⟩⟩⟩⟩
theorem in_X5 : ∀ w ∈ u_ws RX5 TX5 5, w ∈ GG := by
  show ∀ w ∈ [u_lay RX5 TX5 0, u_lay RX5 TX5 1, u_lay RX5 TX5 2, u_lay RX5 TX5 3, u_lay RX5 TX5 4], w ∈ GG
  exact List.forall_mem_cons.mpr ⟨mem1 (i := 171) rfl rfl, List.forall_mem_cons.mpr ⟨mem1 (i := 173) rfl rfl, List.forall_mem_cons.mpr ⟨mem1 (i := 175) rfl rfl, List.forall_mem_cons.mpr ⟨mem1 (i := 177) rfl rfl, List.forall_mem_cons.mpr ⟨mem1 (i := 179) rfl rfl, fun _ h => absurd h List.not_mem_nil⟩⟩⟩⟩⟩
theorem in_X6 : ∀ w ∈ u_ws RX6 TX6 20, w ∈ GG := by
  show ∀ w ∈ [u_lay RX6 TX6 0, u_lay RX6 TX6 1, u_lay RX6 TX6 2, u_lay RX6 TX6 3, u_lay RX6 TX6 4, u_lay RX6 TX6 5, u_lay RX6 TX6 6, u_lay RX6 TX6 7, u_lay RX6 TX6 8, u_lay RX6 TX6 9, u_lay RX6 TX6 10, u_lay RX6 TX6 11, u_lay RX6 TX6 12, u_lay RX6 TX6 13, u_lay RX6 TX6 14, u_lay RX6 TX6 15, u_lay RX6 TX6 16, u_lay RX6 TX6 17, u_lay RX6 TX6 18, u_lay RX6 TX6 19], w ∈ GG
  exact List.forall_mem_cons.mpr ⟨mem3 (i := 83) rfl rfl, List.forall_mem_cons.mpr ⟨mem3 (i := 85) rfl rfl, List.forall_mem_cons.mpr ⟨mem3 (i := 87) rfl rfl, List.forall_mem_cons.mpr ⟨mem3 (i := 89) rfl rfl, List.forall_mem_cons.mpr ⟨mem3 (i := 91) rfl rfl, List.forall_mem_cons.mpr ⟨mem3 (i := 93) rfl rfl, List.forall_mem_cons.mpr ⟨mem3 (i := 95) rfl rfl, List.forall_mem_cons.mpr ⟨mem3 (i := 97) rfl rfl, List.forall_mem_cons.mpr ⟨mem3 (i := 99) rfl rfl, List.forall_mem_cons.mpr ⟨mem3 (i := 101) rfl rfl, List.forall_mem_cons.mpr ⟨mem3 (i := 103) rfl rfl, List.forall_mem_cons.mpr ⟨mem3 (i := 105) rfl rfl, List.forall_mem_cons.mpr ⟨mem3 (i := 107) rfl rfl, List.forall_mem_cons.mpr ⟨mem3 (i := 109) rfl rfl, List.forall_mem_cons.mpr ⟨mem3 (i := 111) rfl rfl, List.forall_mem_cons.mpr ⟨mem3 (i := 113) rfl rfl, List.forall_mem_cons.mpr ⟨mem3 (i := 115) rfl rfl, List.forall_mem_cons.mpr ⟨mem3 (i := 117) rfl rfl, List.forall_mem_cons.mpr ⟨mem3 (i := 119) rfl rfl, List.forall_mem_cons.mpr ⟨mem3 (i := 121) rfl rfl, fun _ h => absurd h List.not_mem_nil⟩⟩⟩⟩⟩⟩⟩⟩⟩⟩⟩⟩⟩⟩⟩⟩⟩⟩⟩⟩
