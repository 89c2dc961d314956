/-- the words that stay when the tables grow warmer -/
def lw_G : List Cond := lw_tbl.filter goodWord
theorem lw_at (i : Nat) {w : Cond} (h : tables_1[i]? = some w) : w ∈ lw_tbl := List.mem_append_right _ (List.mem_of_getElem? h)
theorem lw_t1 (i : Nat) {w : Cond} (h : tables_1_1[i]? = some w) : w ∈ lw_tbl := List.mem_append_right _ (by unfold tables_1; exact List.mem_append_left _ (List.mem_of_getElem? h))
theorem lw_g1 (i : Nat) {w : Cond} (h : tables_1_1[i]? = some w) (hg : goodWord w = true) : w ∈ lw_G := List.mem_filter.mpr ⟨lw_t1 i h, hg⟩
theorem lw_t2 (i : Nat) {w : Cond} (h : tables_1_2[i]? = some w) : w ∈ lw_tbl := List.mem_append_right _ (by unfold tables_1; exact List.mem_append_right _ (List.mem_append_left _ (List.mem_of_getElem? h)))
theorem lw_g2 (i : Nat) {w : Cond} (h : tables_1_2[i]? = some w) (hg : goodWord w = true) : w ∈ lw_G := List.mem_filter.mpr ⟨lw_t2 i h, hg⟩
theorem lw_t3 (i : Nat) {w : Cond} (h : tables_1_3[i]? = some w) : w ∈ lw_tbl := List.mem_append_right _ (by unfold tables_1; exact List.mem_append_right _ (List.mem_append_right _ (List.mem_append_left _ (List.mem_of_getElem? h))))
theorem lw_g3 (i : Nat) {w : Cond} (h : tables_1_3[i]? = some w) (hg : goodWord w = true) : w ∈ lw_G := List.mem_filter.mpr ⟨lw_t3 i h, hg⟩
theorem lw_t4 (i : Nat) {w : Cond} (h : tables_1_4[i]? = some w) : w ∈ lw_tbl := List.mem_append_right _ (by unfold tables_1; exact List.mem_append_right _ (List.mem_append_right _ (List.mem_append_right _ (List.mem_append_left _ (List.mem_of_getElem? h)))))
theorem lw_g4 (i : Nat) {w : Cond} (h : tables_1_4[i]? = some w) (hg : goodWord w = true) : w ∈ lw_G := List.mem_filter.mpr ⟨lw_t4 i h, hg⟩
theorem lw_t5 (i : Nat) {w : Cond} (h : tables_1_5[i]? = some w) : w ∈ lw_tbl := List.mem_append_right _ (by unfold tables_1; exact List.mem_append_right _ (List.mem_append_right _ (List.mem_append_right _ (List.mem_append_right _ (List.mem_append_left _ (List.mem_of_getElem? h))))))
theorem lw_g5 (i : Nat) {w : Cond} (h : tables_1_5[i]? = some w) (hg : goodWord w = true) : w ∈ lw_G := List.mem_filter.mpr ⟨lw_t5 i h, hg⟩
theorem lw_t6 (i : Nat) {w : Cond} (h : tables_1_6[i]? = some w) : w ∈ lw_tbl := List.mem_append_right _ (by unfold tables_1; exact List.mem_append_right _ (List.mem_append_right _ (List.mem_append_right _ (List.mem_append_right _ (List.mem_append_right _ (List.mem_append_left _ (List.mem_of_getElem? h)))))))
theorem lw_g6 (i : Nat) {w : Cond} (h : tables_1_6[i]? = some w) (hg : goodWord w = true) : w ∈ lw_G := List.mem_filter.mpr ⟨lw_t6 i h, hg⟩
theorem lw_t7 (i : Nat) {w : Cond} (h : tables_1_7[i]? = some w) : w ∈ lw_tbl := List.mem_append_right _ (by unfold tables_1; exact List.mem_append_right _ (List.mem_append_right _ (List.mem_append_right _ (List.mem_append_right _ (List.mem_append_right _ (List.mem_append_right _ (List.mem_of_getElem? h)))))))
theorem lw_g7 (i : Nat) {w : Cond} (h : tables_1_7[i]? = some w) (hg : goodWord w = true) : w ∈ lw_G := List.mem_filter.mpr ⟨lw_t7 i h, hg⟩
theorem lw_sl (i : Nat) {w : Cond} (h : (k2_sels lw_privs)[i]? = some w) (hg : goodWord w = true) : w ∈ lw_G := List.mem_filter.mpr ⟨List.mem_append_left _ (List.mem_of_getElem? h), hg⟩
def R_Nu : String := "SturmDesk$Num"
def F_Nu : u_T := fun k => match k with
  | 0 => ("SturmDesk$Num", "limb", "[I", true)
  | 1 => ("SturmDesk$Num", "len", "I", false)
  | _ => ("SturmDesk$Num", "sgn", "I", false)
def t_Nu : Nat → FieldType := fun k => match k with
  | 0 => .array .int
  | 1 => .int
  | _ => .int
theorem n_Nu : ∀ a, a < 3 → ∀ b, b < 3 → a ≠ b → (F_Nu a).2.1 ≠ (F_Nu b).2.1 := by decide +kernel
theorem t_Nu_ok : ∀ k, k < 3 → parseFieldDescriptor (F_Nu k).2.2.1 = some (t_Nu k) := by decide +kernel
set_option maxRecDepth 20000 in
theorem i_Nu : ∀ w ∈ u_ws R_Nu F_Nu 3, w ∈ lw_G := by
  intro w hw
  have h2 : w ∈ ([72, 74, 76] : List Nat).filterMap (fun i => tables_1[i]?) := by
    have e : u_ws R_Nu F_Nu 3 = ([72, 74, 76] : List Nat).filterMap (fun i => tables_1[i]?) := by rfl
    rw [← e]; exact hw
  obtain ⟨i, -, hi⟩ := List.mem_filterMap.mp h2
  exact List.mem_filter.mpr ⟨lw_at i hi, List.all_eq_true.mp (show (u_ws R_Nu F_Nu 3).all goodWord = true from rfl) w hw⟩
def R_Pt : String := "SturmDesk$Point"
def F_Pt : u_T := fun k => match k with
  | 0 => ("SturmDesk$Point", "over", "LSturmDesk$Num;", true)
  | _ => ("SturmDesk$Point", "exp", "I", false)
def t_Pt : Nat → FieldType := fun k => match k with
  | 0 => .object "SturmDesk$Num"
  | _ => .int
theorem n_Pt : ∀ a, a < 2 → ∀ b, b < 2 → a ≠ b → (F_Pt a).2.1 ≠ (F_Pt b).2.1 := by decide +kernel
theorem t_Pt_ok : ∀ k, k < 2 → parseFieldDescriptor (F_Pt k).2.2.1 = some (t_Pt k) := by decide +kernel
set_option maxRecDepth 20000 in
theorem i_Pt : ∀ w ∈ u_ws R_Pt F_Pt 2, w ∈ lw_G := by
  intro w hw
  have h2 : w ∈ ([203, 205] : List Nat).filterMap (fun i => tables_1[i]?) := by
    have e : u_ws R_Pt F_Pt 2 = ([203, 205] : List Nat).filterMap (fun i => tables_1[i]?) := by rfl
    rw [← e]; exact hw
  obtain ⟨i, -, hi⟩ := List.mem_filterMap.mp h2
  exact List.mem_filter.mpr ⟨lw_at i hi, List.all_eq_true.mp (show (u_ws R_Pt F_Pt 2).all goodWord = true from rfl) w hw⟩
def R_Py : String := "SturmDesk$Poly"
def F_Py : u_T := fun k => match k with
  | 0 => ("SturmDesk$Poly", "c", "[LSturmDesk$Num;", true)
  | _ => ("SturmDesk$Poly", "deg", "I", false)
def t_Py : Nat → FieldType := fun k => match k with
  | 0 => .array (.object "SturmDesk$Num")
  | _ => .int
theorem n_Py : ∀ a, a < 2 → ∀ b, b < 2 → a ≠ b → (F_Py a).2.1 ≠ (F_Py b).2.1 := by decide +kernel
theorem t_Py_ok : ∀ k, k < 2 → parseFieldDescriptor (F_Py k).2.2.1 = some (t_Py k) := by decide +kernel
set_option maxRecDepth 20000 in
theorem i_Py : ∀ w ∈ u_ws R_Py F_Py 2, w ∈ lw_G := by
  intro w hw
  have h2 : w ∈ ([91, 93] : List Nat).filterMap (fun i => tables_1[i]?) := by
    have e : u_ws R_Py F_Py 2 = ([91, 93] : List Nat).filterMap (fun i => tables_1[i]?) := by rfl
    rw [← e]; exact hw
  obtain ⟨i, -, hi⟩ := List.mem_filterMap.mp h2
  exact List.mem_filter.mpr ⟨lw_at i hi, List.all_eq_true.mp (show (u_ws R_Py F_Py 2).all goodWord = true from rfl) w hw⟩
def R_Di : String := "SturmDesk$Divider"
def F_Di : u_T := fun k => match k with
  | 0 => ("SturmDesk$Divider", "quotient", "LSturmDesk$Num;", true)
  | 1 => ("SturmDesk$Divider", "rest", "LSturmDesk$Num;", true)
  | 2 => ("SturmDesk$Divider", "moved", "LSturmDesk$Num;", true)
  | _ => ("SturmDesk$Divider", "spare", "LSturmDesk$Num;", true)
def t_Di : Nat → FieldType := fun k => match k with
  | 0 => .object "SturmDesk$Num"
  | 1 => .object "SturmDesk$Num"
  | 2 => .object "SturmDesk$Num"
  | _ => .object "SturmDesk$Num"
theorem n_Di : ∀ a, a < 4 → ∀ b, b < 4 → a ≠ b → (F_Di a).2.1 ≠ (F_Di b).2.1 := by decide +kernel
theorem t_Di_ok : ∀ k, k < 4 → parseFieldDescriptor (F_Di k).2.2.1 = some (t_Di k) := by decide +kernel
set_option maxRecDepth 20000 in
theorem i_Di : ∀ w ∈ u_ws R_Di F_Di 4, w ∈ lw_G := by
  intro w hw
  have h2 : w ∈ ([223, 225, 227, 229] : List Nat).filterMap (fun i => tables_1[i]?) := by
    have e : u_ws R_Di F_Di 4 = ([223, 225, 227, 229] : List Nat).filterMap (fun i => tables_1[i]?) := by rfl
    rw [← e]; exact hw
  obtain ⟨i, -, hi⟩ := List.mem_filterMap.mp h2
  exact List.mem_filter.mpr ⟨lw_at i hi, List.all_eq_true.mp (show (u_ws R_Di F_Di 4).all goodWord = true from rfl) w hw⟩
def R_Be : String := "SturmDesk$Bench"
def F_Be : u_T := fun k => match k with
  | 0 => ("SturmDesk$Bench", "one", "LSturmDesk$Num;", true)
  | 1 => ("SturmDesk$Bench", "two", "LSturmDesk$Num;", true)
  | 2 => ("SturmDesk$Bench", "term", "LSturmDesk$Num;", true)
  | 3 => ("SturmDesk$Bench", "power", "LSturmDesk$Num;", true)
  | 4 => ("SturmDesk$Bench", "lower", "LSturmDesk$Num;", true)
  | 5 => ("SturmDesk$Bench", "upper", "LSturmDesk$Num;", true)
  | 6 => ("SturmDesk$Bench", "guess", "LSturmDesk$Num;", true)
  | 7 => ("SturmDesk$Bench", "tens", "LSturmDesk$Num;", true)
  | 8 => ("SturmDesk$Bench", "scale", "LSturmDesk$Num;", true)
  | 9 => ("SturmDesk$Bench", "height", "LSturmDesk$Num;", true)
  | 10 => ("SturmDesk$Bench", "share", "LSturmDesk$Num;", true)
  | 11 => ("SturmDesk$Bench", "spare", "LSturmDesk$Num;", true)
  | 12 => ("SturmDesk$Bench", "point", "LSturmDesk$Point;", true)
  | 13 => ("SturmDesk$Bench", "divider", "LSturmDesk$Divider;", true)
  | 14 => ("SturmDesk$Bench", "rest", "LSturmDesk$Poly;", true)
  | _ => ("SturmDesk$Bench", "divisor", "LSturmDesk$Poly;", true)
def t_Be : Nat → FieldType := fun k => match k with
  | 0 => .object "SturmDesk$Num"
  | 1 => .object "SturmDesk$Num"
  | 2 => .object "SturmDesk$Num"
  | 3 => .object "SturmDesk$Num"
  | 4 => .object "SturmDesk$Num"
  | 5 => .object "SturmDesk$Num"
  | 6 => .object "SturmDesk$Num"
  | 7 => .object "SturmDesk$Num"
  | 8 => .object "SturmDesk$Num"
  | 9 => .object "SturmDesk$Num"
  | 10 => .object "SturmDesk$Num"
  | 11 => .object "SturmDesk$Num"
  | 12 => .object "SturmDesk$Point"
  | 13 => .object "SturmDesk$Divider"
  | 14 => .object "SturmDesk$Poly"
  | _ => .object "SturmDesk$Poly"
theorem n_Be : ∀ a, a < 16 → ∀ b, b < 16 → a ≠ b → (F_Be a).2.1 ≠ (F_Be b).2.1 := by decide +kernel
theorem t_Be_ok : ∀ k, k < 16 → parseFieldDescriptor (F_Be k).2.2.1 = some (t_Be k) := by decide +kernel
set_option maxRecDepth 20000 in
theorem i_Be : ∀ w ∈ u_ws R_Be F_Be 16, w ∈ lw_G := by
  intro w hw
  have h2 : w ∈ ([269, 271, 273, 275, 277, 279, 281, 283, 285, 287, 289, 291, 293, 295, 297, 299] : List Nat).filterMap (fun i => tables_1[i]?) := by
    have e : u_ws R_Be F_Be 16 = ([269, 271, 273, 275, 277, 279, 281, 283, 285, 287, 289, 291, 293, 295, 297, 299] : List Nat).filterMap (fun i => tables_1[i]?) := by rfl
    rw [← e]; exact hw
  obtain ⟨i, -, hi⟩ := List.mem_filterMap.mp h2
  exact List.mem_filter.mpr ⟨lw_at i hi, List.all_eq_true.mp (show (u_ws R_Be F_Be 16).all goodWord = true from rfl) w hw⟩
def R_Ch : String := "SturmDesk$Chain"
def F_Ch : u_T := fun k => match k with
  | 0 => ("SturmDesk$Chain", "link", "[LSturmDesk$Poly;", true)
  | 1 => ("SturmDesk$Chain", "length", "I", false)
  | _ => ("SturmDesk$Chain", "headSign", "I", false)
def t_Ch : Nat → FieldType := fun k => match k with
  | 0 => .array (.object "SturmDesk$Poly")
  | 1 => .int
  | _ => .int
theorem n_Ch : ∀ a, a < 3 → ∀ b, b < 3 → a ≠ b → (F_Ch a).2.1 ≠ (F_Ch b).2.1 := by decide +kernel
theorem t_Ch_ok : ∀ k, k < 3 → parseFieldDescriptor (F_Ch k).2.2.1 = some (t_Ch k) := by decide +kernel
set_option maxRecDepth 20000 in
theorem i_Ch : ∀ w ∈ u_ws R_Ch F_Ch 3, w ∈ lw_G := by
  intro w hw
  have h2 : w ∈ ([111, 113, 115] : List Nat).filterMap (fun i => tables_1[i]?) := by
    have e : u_ws R_Ch F_Ch 3 = ([111, 113, 115] : List Nat).filterMap (fun i => tables_1[i]?) := by rfl
    rw [← e]; exact hw
  obtain ⟨i, -, hi⟩ := List.mem_filterMap.mp h2
  exact List.mem_filter.mpr ⟨lw_at i hi, List.all_eq_true.mp (show (u_ws R_Ch F_Ch 3).all goodWord = true from rfl) w hw⟩
def R_Ro : String := "SturmDesk$Root"
def F_Ro : u_T := fun k => match k with
  | 0 => ("SturmDesk$Root", "at", "LSturmDesk$Num;", true)
  | 1 => ("SturmDesk$Root", "level", "I", false)
  | 2 => ("SturmDesk$Root", "lowSign", "I", false)
  | 3 => ("SturmDesk$Root", "found", "Z", false)
  | _ => ("SturmDesk$Root", "exact", "Z", false)
def t_Ro : Nat → FieldType := fun k => match k with
  | 0 => .object "SturmDesk$Num"
  | 1 => .int
  | 2 => .int
  | 3 => .boolean
  | _ => .boolean
theorem n_Ro : ∀ a, a < 5 → ∀ b, b < 5 → a ≠ b → (F_Ro a).2.1 ≠ (F_Ro b).2.1 := by decide +kernel
theorem t_Ro_ok : ∀ k, k < 5 → parseFieldDescriptor (F_Ro k).2.2.1 = some (t_Ro k) := by decide +kernel
set_option maxRecDepth 20000 in
theorem i_Ro : ∀ w ∈ u_ws R_Ro F_Ro 5, w ∈ lw_G := by
  intro w hw
  have h2 : w ∈ ([136, 138, 140, 142, 144] : List Nat).filterMap (fun i => tables_1[i]?) := by
    have e : u_ws R_Ro F_Ro 5 = ([136, 138, 140, 142, 144] : List Nat).filterMap (fun i => tables_1[i]?) := by rfl
    rw [← e]; exact hw
  obtain ⟨i, -, hi⟩ := List.mem_filterMap.mp h2
  exact List.mem_filter.mpr ⟨lw_at i hi, List.all_eq_true.mp (show (u_ws R_Ro F_Ro 5).all goodWord = true from rfl) w hw⟩
def R_He : String := "SturmDesk$Held"
def F_He : u_T := fun k => match k with
  | 0 => ("SturmDesk$Held", "given", "[I", true)
  | 1 => ("SturmDesk$Held", "source", "LSturmDesk$Poly;", true)
  | 2 => ("SturmDesk$Held", "chain", "LSturmDesk$Chain;", true)
  | 3 => ("SturmDesk$Held", "root", "[LSturmDesk$Root;", true)
  | 4 => ("SturmDesk$Held", "ready", "Z", false)
  | 5 => ("SturmDesk$Held", "count", "I", false)
  | 6 => ("SturmDesk$Held", "shared", "I", false)
  | 7 => ("SturmDesk$Held", "start", "I", false)
  | _ => ("SturmDesk$Held", "reach", "I", false)
def t_He : Nat → FieldType := fun k => match k with
  | 0 => .array .int
  | 1 => .object "SturmDesk$Poly"
  | 2 => .object "SturmDesk$Chain"
  | 3 => .array (.object "SturmDesk$Root")
  | 4 => .boolean
  | 5 => .int
  | 6 => .int
  | 7 => .int
  | _ => .int
theorem n_He : ∀ a, a < 9 → ∀ b, b < 9 → a ≠ b → (F_He a).2.1 ≠ (F_He b).2.1 := by decide +kernel
theorem t_He_ok : ∀ k, k < 9 → parseFieldDescriptor (F_He k).2.2.1 = some (t_He k) := by decide +kernel
set_option maxRecDepth 20000 in
theorem i_He : ∀ w ∈ u_ws R_He F_He 9, w ∈ lw_G := by
  intro w hw
  have h2 : w ∈ ([164, 166, 168, 170, 172, 174, 176, 178, 180] : List Nat).filterMap (fun i => tables_1[i]?) := by
    have e : u_ws R_He F_He 9 = ([164, 166, 168, 170, 172, 174, 176, 178, 180] : List Nat).filterMap (fun i => tables_1[i]?) := by rfl
    rw [← e]; exact hw
  obtain ⟨i, -, hi⟩ := List.mem_filterMap.mp h2
  exact List.mem_filter.mpr ⟨lw_at i hi, List.all_eq_true.mp (show (u_ws R_He F_He 9).all goodWord = true from rfl) w hw⟩
def R_Qu : String := "SturmDesk$Query"
def F_Qu : u_T := fun k => match k with
  | 0 => ("SturmDesk$Query", "chain", "LSturmDesk$Chain;", true)
  | _ => ("SturmDesk$Query", "trial", "LSturmDesk$Poly;", true)
def t_Qu : Nat → FieldType := fun k => match k with
  | 0 => .object "SturmDesk$Chain"
  | _ => .object "SturmDesk$Poly"
theorem n_Qu : ∀ a, a < 2 → ∀ b, b < 2 → a ≠ b → (F_Qu a).2.1 ≠ (F_Qu b).2.1 := by decide +kernel
theorem t_Qu_ok : ∀ k, k < 2 → parseFieldDescriptor (F_Qu k).2.2.1 = some (t_Qu k) := by decide +kernel
set_option maxRecDepth 20000 in
theorem i_Qu : ∀ w ∈ u_ws R_Qu F_Qu 2, w ∈ lw_G := by
  intro w hw
  have h2 : w ∈ ([314, 316] : List Nat).filterMap (fun i => tables_1[i]?) := by
    have e : u_ws R_Qu F_Qu 2 = ([314, 316] : List Nat).filterMap (fun i => tables_1[i]?) := by rfl
    rw [← e]; exact hw
  obtain ⟨i, -, hi⟩ := List.mem_filterMap.mp h2
  exact List.mem_filter.mpr ⟨lw_at i hi, List.all_eq_true.mp (show (u_ws R_Qu F_Qu 2).all goodWord = true from rfl) w hw⟩
def R_Tx : String := "SturmDesk$Text"
def F_Tx : u_T := fun k => match k with
  | 0 => ("SturmDesk$Text", "bytes", "[B", true)
  | 1 => ("SturmDesk$Text", "turned", "[B", true)
  | 2 => ("SturmDesk$Text", "left", "LSturmDesk$Num;", true)
  | _ => ("SturmDesk$Text", "length", "I", false)
def t_Tx : Nat → FieldType := fun k => match k with
  | 0 => .array .byte
  | 1 => .array .byte
  | 2 => .object "SturmDesk$Num"
  | _ => .int
theorem n_Tx : ∀ a, a < 4 → ∀ b, b < 4 → a ≠ b → (F_Tx a).2.1 ≠ (F_Tx b).2.1 := by decide +kernel
theorem t_Tx_ok : ∀ k, k < 4 → parseFieldDescriptor (F_Tx k).2.2.1 = some (t_Tx k) := by decide +kernel
set_option maxRecDepth 20000 in
theorem i_Tx : ∀ w ∈ u_ws R_Tx F_Tx 4, w ∈ lw_G := by
  intro w hw
  have h2 : w ∈ ([332, 334, 336, 338] : List Nat).filterMap (fun i => tables_1[i]?) := by
    have e : u_ws R_Tx F_Tx 4 = ([332, 334, 336, 338] : List Nat).filterMap (fun i => tables_1[i]?) := by rfl
    rw [← e]; exact hw
  obtain ⟨i, -, hi⟩ := List.mem_filterMap.mp h2
  exact List.mem_filter.mpr ⟨lw_at i hi, List.all_eq_true.mp (show (u_ws R_Tx F_Tx 4).all goodWord = true from rfl) w hw⟩
def R_D : String := "SturmDesk"
def F_D : u_T := fun k => match k with
  | 0 => ("SturmDesk", "desk", "[LSturmDesk$Held;", true)
  | 1 => ("SturmDesk", "bench", "LSturmDesk$Bench;", true)
  | 2 => ("SturmDesk", "query", "LSturmDesk$Query;", true)
  | _ => ("SturmDesk", "text", "LSturmDesk$Text;", true)
def t_D : Nat → FieldType := fun k => match k with
  | 0 => .array (.object "SturmDesk$Held")
  | 1 => .object "SturmDesk$Bench"
  | 2 => .object "SturmDesk$Query"
  | _ => .object "SturmDesk$Text"
theorem n_D : ∀ a, a < 4 → ∀ b, b < 4 → a ≠ b → (F_D a).2.1 ≠ (F_D b).2.1 := by decide +kernel
theorem t_D_ok : ∀ k, k < 4 → parseFieldDescriptor (F_D k).2.2.1 = some (t_D k) := by decide +kernel
set_option maxRecDepth 20000 in
theorem i_D : ∀ w ∈ u_ws R_D F_D 4, w ∈ lw_G := by
  intro w hw
  have h2 : w ∈ ([346, 348, 350, 352] : List Nat).filterMap (fun i => tables_1[i]?) := by
    have e : u_ws R_D F_D 4 = ([346, 348, 350, 352] : List Nat).filterMap (fun i => tables_1[i]?) := by rfl
    rw [← e]; exact hw
  obtain ⟨i, -, hi⟩ := List.mem_filterMap.mp h2
  exact List.mem_filter.mpr ⟨lw_at i hi, List.all_eq_true.mp (show (u_ws R_D F_D 4).all goodWord = true from rfl) w hw⟩
def R_Mo : String := "SturmDeskModel"
def F_Mo : u_T := fun k => match k with
  | 0 => ("SturmDeskModel", "thrown", "I", false)
  | 1 => ("SturmDeskModel", "limb", "[I", true)
  | 2 => ("SturmDeskModel", "size", "[I", true)
  | 3 => ("SturmDeskModel", "sign", "[I", true)
  | 4 => ("SturmDeskModel", "degree", "[I", true)
  | 5 => ("SturmDeskModel", "deep", "[I", true)
  | 6 => ("SturmDeskModel", "exact", "[Z", true)
  | 7 => ("SturmDeskModel", "found", "[I", true)
  | 8 => ("SturmDeskModel", "text", "[I", true)
  | 9 => ("SturmDeskModel", "written", "I", false)
  | _ => ("SturmDeskModel", "spare", "[I", true)
def t_Mo : Nat → FieldType := fun k => match k with
  | 0 => .int
  | 1 => .array .int
  | 2 => .array .int
  | 3 => .array .int
  | 4 => .array .int
  | 5 => .array .int
  | 6 => .array .boolean
  | 7 => .array .int
  | 8 => .array .int
  | 9 => .int
  | _ => .array .int
theorem n_Mo : ∀ a, a < 11 → ∀ b, b < 11 → a ≠ b → (F_Mo a).2.1 ≠ (F_Mo b).2.1 := by decide +kernel
theorem t_Mo_ok : ∀ k, k < 11 → parseFieldDescriptor (F_Mo k).2.2.1 = some (t_Mo k) := by decide +kernel
set_option maxRecDepth 20000 in
theorem i_Mo : ∀ w ∈ u_ws R_Mo F_Mo 11, w ∈ lw_G := by
  intro w hw
  have h2 : w ∈ ([1204, 1206, 1208, 1210, 1212, 1214, 1216, 1218, 1220, 1222, 1224] : List Nat).filterMap (fun i => tables_1[i]?) := by
    have e : u_ws R_Mo F_Mo 11 = ([1204, 1206, 1208, 1210, 1212, 1214, 1216, 1218, 1220, 1222, 1224] : List Nat).filterMap (fun i => tables_1[i]?) := by rfl
    rw [← e]; exact hw
  obtain ⟨i, -, hi⟩ := List.mem_filterMap.mp h2
  exact List.mem_filter.mpr ⟨lw_at i hi, List.all_eq_true.mp (show (u_ws R_Mo F_Mo 11).all goodWord = true from rfl) w hw⟩
def R_La : String := "SturmDeskLaw"
abbrev cls : List vw_C := [(R_Nu, F_Nu, 3), (R_Pt, F_Pt, 2), (R_Py, F_Py, 2), (R_Di, F_Di, 4), (R_Be, F_Be, 16), (R_Ch, F_Ch, 3), (R_Ro, F_Ro, 5), (R_He, F_He, 9), (R_Qu, F_Qu, 2), (R_Tx, F_Tx, 4), (R_D, F_D, 4), (R_Mo, F_Mo, 11)]
abbrev b_Nu_init : ByteArray := prog_6_method_1_code
def y_Nu_init : MethodName := ⟨R_Nu, "<init>", "(Z)V"⟩
theorem hd_Nu_init : y_Nu_init.cls ≠ "java/lang/invoke/MethodHandle" ∧ y_Nu_init.cls ≠ "java/lang/invoke/VarHandle" ∧ (parseMethodDescriptor y_Nu_init.desc).map (fun d => d.parameters.length) = some 1 := by decide +kernel
abbrev b_Nu_clear : ByteArray := prog_6_method_2_code
def y_Nu_clear : MethodName := ⟨R_Nu, "clear", "()V"⟩
theorem hd_Nu_clear : y_Nu_clear.cls ≠ "java/lang/invoke/MethodHandle" ∧ y_Nu_clear.cls ≠ "java/lang/invoke/VarHandle" ∧ (parseMethodDescriptor y_Nu_clear.desc).map (fun d => d.parameters.length) = some 0 := by decide +kernel
abbrev b_Nu_copy : ByteArray := prog_6_method_3_code
def y_Nu_copy : MethodName := ⟨R_Nu, "copy", "(LSturmDesk$Num;)V"⟩
theorem hd_Nu_copy : y_Nu_copy.cls ≠ "java/lang/invoke/MethodHandle" ∧ y_Nu_copy.cls ≠ "java/lang/invoke/VarHandle" ∧ (parseMethodDescriptor y_Nu_copy.desc).map (fun d => d.parameters.length) = some 1 := by decide +kernel
abbrev b_Nu_setLong : ByteArray := prog_6_method_4_code
def y_Nu_setLong : MethodName := ⟨R_Nu, "setLong", "(J)V"⟩
theorem hd_Nu_setLong : y_Nu_setLong.cls ≠ "java/lang/invoke/MethodHandle" ∧ y_Nu_setLong.cls ≠ "java/lang/invoke/VarHandle" ∧ (parseMethodDescriptor y_Nu_setLong.desc).map (fun d => d.parameters.length) = some 1 := by decide +kernel
abbrev b_Nu_bitLength : ByteArray := prog_6_method_5_code
def y_Nu_bitLength : MethodName := ⟨R_Nu, "bitLength", "()I"⟩
theorem hd_Nu_bitLength : y_Nu_bitLength.cls ≠ "java/lang/invoke/MethodHandle" ∧ y_Nu_bitLength.cls ≠ "java/lang/invoke/VarHandle" ∧ (parseMethodDescriptor y_Nu_bitLength.desc).map (fun d => d.parameters.length) = some 0 := by decide +kernel
abbrev b_Nu_compareMagnitude : ByteArray := prog_6_method_6_code
def y_Nu_compareMagnitude : MethodName := ⟨R_Nu, "compareMagnitude", "(LSturmDesk$Num;)I"⟩
theorem hd_Nu_compareMagnitude : y_Nu_compareMagnitude.cls ≠ "java/lang/invoke/MethodHandle" ∧ y_Nu_compareMagnitude.cls ≠ "java/lang/invoke/VarHandle" ∧ (parseMethodDescriptor y_Nu_compareMagnitude.desc).map (fun d => d.parameters.length) = some 1 := by decide +kernel
abbrev b_Nu_same : ByteArray := prog_6_method_7_code
def y_Nu_same : MethodName := ⟨R_Nu, "same", "(LSturmDesk$Num;)Z"⟩
theorem hd_Nu_same : y_Nu_same.cls ≠ "java/lang/invoke/MethodHandle" ∧ y_Nu_same.cls ≠ "java/lang/invoke/VarHandle" ∧ (parseMethodDescriptor y_Nu_same.desc).map (fun d => d.parameters.length) = some 1 := by decide +kernel
abbrev b_Nu_add : ByteArray := prog_6_method_8_code
def y_Nu_add : MethodName := ⟨R_Nu, "add", "(LSturmDesk$Num;I)V"⟩
theorem hd_Nu_add : y_Nu_add.cls ≠ "java/lang/invoke/MethodHandle" ∧ y_Nu_add.cls ≠ "java/lang/invoke/VarHandle" ∧ (parseMethodDescriptor y_Nu_add.desc).map (fun d => d.parameters.length) = some 2 := by decide +kernel
abbrev b_Nu_addMagnitude : ByteArray := prog_6_method_9_code
def y_Nu_addMagnitude : MethodName := ⟨R_Nu, "addMagnitude", "(LSturmDesk$Num;)V"⟩
theorem hd_Nu_addMagnitude : y_Nu_addMagnitude.cls ≠ "java/lang/invoke/MethodHandle" ∧ y_Nu_addMagnitude.cls ≠ "java/lang/invoke/VarHandle" ∧ (parseMethodDescriptor y_Nu_addMagnitude.desc).map (fun d => d.parameters.length) = some 1 := by decide +kernel
abbrev b_Nu_subtractMagnitude : ByteArray := prog_6_method_10_code
def y_Nu_subtractMagnitude : MethodName := ⟨R_Nu, "subtractMagnitude", "(LSturmDesk$Num;I)V"⟩
theorem hd_Nu_subtractMagnitude : y_Nu_subtractMagnitude.cls ≠ "java/lang/invoke/MethodHandle" ∧ y_Nu_subtractMagnitude.cls ≠ "java/lang/invoke/VarHandle" ∧ (parseMethodDescriptor y_Nu_subtractMagnitude.desc).map (fun d => d.parameters.length) = some 2 := by decide +kernel
abbrev b_Nu_trim : ByteArray := prog_6_method_11_code
def y_Nu_trim : MethodName := ⟨R_Nu, "trim", "()V"⟩
theorem hd_Nu_trim : y_Nu_trim.cls ≠ "java/lang/invoke/MethodHandle" ∧ y_Nu_trim.cls ≠ "java/lang/invoke/VarHandle" ∧ (parseMethodDescriptor y_Nu_trim.desc).map (fun d => d.parameters.length) = some 0 := by decide +kernel
abbrev b_Nu_step : ByteArray := prog_6_method_12_code
def y_Nu_step : MethodName := ⟨R_Nu, "step", "(I)V"⟩
theorem hd_Nu_step : y_Nu_step.cls ≠ "java/lang/invoke/MethodHandle" ∧ y_Nu_step.cls ≠ "java/lang/invoke/VarHandle" ∧ (parseMethodDescriptor y_Nu_step.desc).map (fun d => d.parameters.length) = some 1 := by decide +kernel
abbrev b_Nu_move : ByteArray := prog_6_method_13_code
def y_Nu_move : MethodName := ⟨R_Nu, "move", "(I)V"⟩
theorem hd_Nu_move : y_Nu_move.cls ≠ "java/lang/invoke/MethodHandle" ∧ y_Nu_move.cls ≠ "java/lang/invoke/VarHandle" ∧ (parseMethodDescriptor y_Nu_move.desc).map (fun d => d.parameters.length) = some 1 := by decide +kernel
abbrev b_Nu_shiftUp : ByteArray := prog_6_method_14_code
def y_Nu_shiftUp : MethodName := ⟨R_Nu, "shiftUp", "(I)V"⟩
theorem hd_Nu_shiftUp : y_Nu_shiftUp.cls ≠ "java/lang/invoke/MethodHandle" ∧ y_Nu_shiftUp.cls ≠ "java/lang/invoke/VarHandle" ∧ (parseMethodDescriptor y_Nu_shiftUp.desc).map (fun d => d.parameters.length) = some 1 := by decide +kernel
abbrev b_Nu_shiftDown : ByteArray := prog_6_method_15_code
def y_Nu_shiftDown : MethodName := ⟨R_Nu, "shiftDown", "(I)Z"⟩
theorem hd_Nu_shiftDown : y_Nu_shiftDown.cls ≠ "java/lang/invoke/MethodHandle" ∧ y_Nu_shiftDown.cls ≠ "java/lang/invoke/VarHandle" ∧ (parseMethodDescriptor y_Nu_shiftDown.desc).map (fun d => d.parameters.length) = some 1 := by decide +kernel
abbrev b_Nu_setProduct : ByteArray := prog_6_method_16_code
def y_Nu_setProduct : MethodName := ⟨R_Nu, "setProduct", "(LSturmDesk$Num;LSturmDesk$Num;)V"⟩
theorem hd_Nu_setProduct : y_Nu_setProduct.cls ≠ "java/lang/invoke/MethodHandle" ∧ y_Nu_setProduct.cls ≠ "java/lang/invoke/VarHandle" ∧ (parseMethodDescriptor y_Nu_setProduct.desc).map (fun d => d.parameters.length) = some 2 := by decide +kernel
abbrev b_Nu_times : ByteArray := prog_6_method_17_code
def y_Nu_times : MethodName := ⟨R_Nu, "times", "(I)V"⟩
theorem hd_Nu_times : y_Nu_times.cls ≠ "java/lang/invoke/MethodHandle" ∧ y_Nu_times.cls ≠ "java/lang/invoke/VarHandle" ∧ (parseMethodDescriptor y_Nu_times.desc).map (fun d => d.parameters.length) = some 1 := by decide +kernel
abbrev b_Nu_divideSmall : ByteArray := prog_6_method_18_code
def y_Nu_divideSmall : MethodName := ⟨R_Nu, "divideSmall", "(I)I"⟩
theorem hd_Nu_divideSmall : y_Nu_divideSmall.cls ≠ "java/lang/invoke/MethodHandle" ∧ y_Nu_divideSmall.cls ≠ "java/lang/invoke/VarHandle" ∧ (parseMethodDescriptor y_Nu_divideSmall.desc).map (fun d => d.parameters.length) = some 1 := by decide +kernel
abbrev b_Pt_init : ByteArray := prog_7_method_1_code
def y_Pt_init : MethodName := ⟨R_Pt, "<init>", "()V"⟩
theorem hd_Pt_init : y_Pt_init.cls ≠ "java/lang/invoke/MethodHandle" ∧ y_Pt_init.cls ≠ "java/lang/invoke/VarHandle" ∧ (parseMethodDescriptor y_Pt_init.desc).map (fun d => d.parameters.length) = some 0 := by decide +kernel
abbrev b_Pt_placeLong : ByteArray := prog_7_method_2_code
def y_Pt_placeLong : MethodName := ⟨R_Pt, "placeLong", "(JI)V"⟩
theorem hd_Pt_placeLong : y_Pt_placeLong.cls ≠ "java/lang/invoke/MethodHandle" ∧ y_Pt_placeLong.cls ≠ "java/lang/invoke/VarHandle" ∧ (parseMethodDescriptor y_Pt_placeLong.desc).map (fun d => d.parameters.length) = some 2 := by decide +kernel
abbrev b_Pt_place : ByteArray := prog_7_method_3_code
def y_Pt_place : MethodName := ⟨R_Pt, "place", "(LSturmDesk$Num;I)V"⟩
theorem hd_Pt_place : y_Pt_place.cls ≠ "java/lang/invoke/MethodHandle" ∧ y_Pt_place.cls ≠ "java/lang/invoke/VarHandle" ∧ (parseMethodDescriptor y_Pt_place.desc).map (fun d => d.parameters.length) = some 2 := by decide +kernel
abbrev b_Py_init : ByteArray := prog_8_method_1_code
def y_Py_init : MethodName := ⟨R_Py, "<init>", "(IZ)V"⟩
theorem hd_Py_init : y_Py_init.cls ≠ "java/lang/invoke/MethodHandle" ∧ y_Py_init.cls ≠ "java/lang/invoke/VarHandle" ∧ (parseMethodDescriptor y_Py_init.desc).map (fun d => d.parameters.length) = some 2 := by decide +kernel
abbrev b_Py_copy : ByteArray := prog_8_method_2_code
def y_Py_copy : MethodName := ⟨R_Py, "copy", "(LSturmDesk$Poly;)V"⟩
theorem hd_Py_copy : y_Py_copy.cls ≠ "java/lang/invoke/MethodHandle" ∧ y_Py_copy.cls ≠ "java/lang/invoke/VarHandle" ∧ (parseMethodDescriptor y_Py_copy.desc).map (fun d => d.parameters.length) = some 1 := by decide +kernel
abbrev b_Py_lower : ByteArray := prog_8_method_3_code
def y_Py_lower : MethodName := ⟨R_Py, "lower", "(I)V"⟩
theorem hd_Py_lower : y_Py_lower.cls ≠ "java/lang/invoke/MethodHandle" ∧ y_Py_lower.cls ≠ "java/lang/invoke/VarHandle" ∧ (parseMethodDescriptor y_Py_lower.desc).map (fun d => d.parameters.length) = some 1 := by decide +kernel
abbrev b_Py_derive : ByteArray := prog_8_method_4_code
def y_Py_derive : MethodName := ⟨R_Py, "derive", "()V"⟩
theorem hd_Py_derive : y_Py_derive.cls ≠ "java/lang/invoke/MethodHandle" ∧ y_Py_derive.cls ≠ "java/lang/invoke/VarHandle" ∧ (parseMethodDescriptor y_Py_derive.desc).map (fun d => d.parameters.length) = some 0 := by decide +kernel
abbrev b_Py_leadSign : ByteArray := prog_8_method_5_code
def y_Py_leadSign : MethodName := ⟨R_Py, "leadSign", "()I"⟩
theorem hd_Py_leadSign : y_Py_leadSign.cls ≠ "java/lang/invoke/MethodHandle" ∧ y_Py_leadSign.cls ≠ "java/lang/invoke/VarHandle" ∧ (parseMethodDescriptor y_Py_leadSign.desc).map (fun d => d.parameters.length) = some 0 := by decide +kernel
abbrev b_Di_init : ByteArray := prog_4_method_1_code
def y_Di_init : MethodName := ⟨R_Di, "<init>", "()V"⟩
theorem hd_Di_init : y_Di_init.cls ≠ "java/lang/invoke/MethodHandle" ∧ y_Di_init.cls ≠ "java/lang/invoke/VarHandle" ∧ (parseMethodDescriptor y_Di_init.desc).map (fun d => d.parameters.length) = some 0 := by decide +kernel
abbrev b_Di_divide : ByteArray := prog_4_method_2_code
def y_Di_divide : MethodName := ⟨R_Di, "divide", "(LSturmDesk$Num;LSturmDesk$Num;)V"⟩
theorem hd_Di_divide : y_Di_divide.cls ≠ "java/lang/invoke/MethodHandle" ∧ y_Di_divide.cls ≠ "java/lang/invoke/VarHandle" ∧ (parseMethodDescriptor y_Di_divide.desc).map (fun d => d.parameters.length) = some 2 := by decide +kernel
abbrev b_Di_takeDigit : ByteArray := prog_4_method_3_code
def y_Di_takeDigit : MethodName := ⟨R_Di, "takeDigit", "(I)I"⟩
theorem hd_Di_takeDigit : y_Di_takeDigit.cls ≠ "java/lang/invoke/MethodHandle" ∧ y_Di_takeDigit.cls ≠ "java/lang/invoke/VarHandle" ∧ (parseMethodDescriptor y_Di_takeDigit.desc).map (fun d => d.parameters.length) = some 1 := by decide +kernel
abbrev b_Di_subtractDigit : ByteArray := prog_4_method_4_code
def y_Di_subtractDigit : MethodName := ⟨R_Di, "subtractDigit", "(IJ)Z"⟩
theorem hd_Di_subtractDigit : y_Di_subtractDigit.cls ≠ "java/lang/invoke/MethodHandle" ∧ y_Di_subtractDigit.cls ≠ "java/lang/invoke/VarHandle" ∧ (parseMethodDescriptor y_Di_subtractDigit.desc).map (fun d => d.parameters.length) = some 2 := by decide +kernel
abbrev b_Di_addBack : ByteArray := prog_4_method_5_code
def y_Di_addBack : MethodName := ⟨R_Di, "addBack", "(I)V"⟩
theorem hd_Di_addBack : y_Di_addBack.cls ≠ "java/lang/invoke/MethodHandle" ∧ y_Di_addBack.cls ≠ "java/lang/invoke/VarHandle" ∧ (parseMethodDescriptor y_Di_addBack.desc).map (fun d => d.parameters.length) = some 1 := by decide +kernel
abbrev b_Di_reduceToCommon : ByteArray := prog_4_method_6_code
def y_Di_reduceToCommon : MethodName := ⟨R_Di, "reduceToCommon", "(LSturmDesk$Num;LSturmDesk$Num;)V"⟩
theorem hd_Di_reduceToCommon : y_Di_reduceToCommon.cls ≠ "java/lang/invoke/MethodHandle" ∧ y_Di_reduceToCommon.cls ≠ "java/lang/invoke/VarHandle" ∧ (parseMethodDescriptor y_Di_reduceToCommon.desc).map (fun d => d.parameters.length) = some 2 := by decide +kernel
abbrev b_Be_init : ByteArray := prog_2_method_1_code
def y_Be_init : MethodName := ⟨R_Be, "<init>", "()V"⟩
theorem hd_Be_init : y_Be_init.cls ≠ "java/lang/invoke/MethodHandle" ∧ y_Be_init.cls ≠ "java/lang/invoke/VarHandle" ∧ (parseMethodDescriptor y_Be_init.desc).map (fun d => d.parameters.length) = some 0 := by decide +kernel
abbrev b_Be_valueAt : ByteArray := prog_2_method_2_code
def y_Be_valueAt : MethodName := ⟨R_Be, "valueAt", "(LSturmDesk$Poly;LSturmDesk$Point;)LSturmDesk$Num;"⟩
theorem hd_Be_valueAt : y_Be_valueAt.cls ≠ "java/lang/invoke/MethodHandle" ∧ y_Be_valueAt.cls ≠ "java/lang/invoke/VarHandle" ∧ (parseMethodDescriptor y_Be_valueAt.desc).map (fun d => d.parameters.length) = some 2 := by decide +kernel
abbrev b_Be_signAtFraction : ByteArray := prog_2_method_3_code
def y_Be_signAtFraction : MethodName := ⟨R_Be, "signAtFraction", "(LSturmDesk$Poly;LSturmDesk$Num;LSturmDesk$Num;)I"⟩
theorem hd_Be_signAtFraction : y_Be_signAtFraction.cls ≠ "java/lang/invoke/MethodHandle" ∧ y_Be_signAtFraction.cls ≠ "java/lang/invoke/VarHandle" ∧ (parseMethodDescriptor y_Be_signAtFraction.desc).map (fun d => d.parameters.length) = some 3 := by decide +kernel
abbrev b_Be_setDivisor : ByteArray := prog_2_method_4_code
def y_Be_setDivisor : MethodName := ⟨R_Be, "setDivisor", "(LSturmDesk$Poly;)V"⟩
theorem hd_Be_setDivisor : y_Be_setDivisor.cls ≠ "java/lang/invoke/MethodHandle" ∧ y_Be_setDivisor.cls ≠ "java/lang/invoke/VarHandle" ∧ (parseMethodDescriptor y_Be_setDivisor.desc).map (fun d => d.parameters.length) = some 1 := by decide +kernel
abbrev b_Be_divideByDivisor : ByteArray := prog_2_method_5_code
def y_Be_divideByDivisor : MethodName := ⟨R_Be, "divideByDivisor", "(LSturmDesk$Poly;LSturmDesk$Poly;)V"⟩
theorem hd_Be_divideByDivisor : y_Be_divideByDivisor.cls ≠ "java/lang/invoke/MethodHandle" ∧ y_Be_divideByDivisor.cls ≠ "java/lang/invoke/VarHandle" ∧ (parseMethodDescriptor y_Be_divideByDivisor.desc).map (fun d => d.parameters.length) = some 2 := by decide +kernel
abbrev b_Be_setTens : ByteArray := prog_2_method_6_code
def y_Be_setTens : MethodName := ⟨R_Be, "setTens", "(I)V"⟩
theorem hd_Be_setTens : y_Be_setTens.cls ≠ "java/lang/invoke/MethodHandle" ∧ y_Be_setTens.cls ≠ "java/lang/invoke/VarHandle" ∧ (parseMethodDescriptor y_Be_setTens.desc).map (fun d => d.parameters.length) = some 1 := by decide +kernel
abbrev b_Ch_init : ByteArray := prog_3_method_1_code
def y_Ch_init : MethodName := ⟨R_Ch, "<init>", "(I)V"⟩
theorem hd_Ch_init : y_Ch_init.cls ≠ "java/lang/invoke/MethodHandle" ∧ y_Ch_init.cls ≠ "java/lang/invoke/VarHandle" ∧ (parseMethodDescriptor y_Ch_init.desc).map (fun d => d.parameters.length) = some 1 := by decide +kernel
abbrev b_Ch_last : ByteArray := prog_3_method_2_code
def y_Ch_last : MethodName := ⟨R_Ch, "last", "()LSturmDesk$Poly;"⟩
theorem hd_Ch_last : y_Ch_last.cls ≠ "java/lang/invoke/MethodHandle" ∧ y_Ch_last.cls ≠ "java/lang/invoke/VarHandle" ∧ (parseMethodDescriptor y_Ch_last.desc).map (fun d => d.parameters.length) = some 0 := by decide +kernel
abbrev b_Ch_deriveHead : ByteArray := prog_3_method_3_code
def y_Ch_deriveHead : MethodName := ⟨R_Ch, "deriveHead", "()V"⟩
theorem hd_Ch_deriveHead : y_Ch_deriveHead.cls ≠ "java/lang/invoke/MethodHandle" ∧ y_Ch_deriveHead.cls ≠ "java/lang/invoke/VarHandle" ∧ (parseMethodDescriptor y_Ch_deriveHead.desc).map (fun d => d.parameters.length) = some 0 := by decide +kernel
abbrev b_Ch_build : ByteArray := prog_3_method_4_code
def y_Ch_build : MethodName := ⟨R_Ch, "build", "(LSturmDesk$Bench;)V"⟩
theorem hd_Ch_build : y_Ch_build.cls ≠ "java/lang/invoke/MethodHandle" ∧ y_Ch_build.cls ≠ "java/lang/invoke/VarHandle" ∧ (parseMethodDescriptor y_Ch_build.desc).map (fun d => d.parameters.length) = some 1 := by decide +kernel
abbrev b_Ch_leaveRest : ByteArray := prog_3_method_5_code
def y_Ch_leaveRest : MethodName := ⟨R_Ch, "leaveRest", "(LSturmDesk$Poly;LSturmDesk$Poly;LSturmDesk$Bench;)V"⟩
theorem hd_Ch_leaveRest : y_Ch_leaveRest.cls ≠ "java/lang/invoke/MethodHandle" ∧ y_Ch_leaveRest.cls ≠ "java/lang/invoke/VarHandle" ∧ (parseMethodDescriptor y_Ch_leaveRest.desc).map (fun d => d.parameters.length) = some 3 := by decide +kernel
abbrev b_Ch_keepRest : ByteArray := prog_3_method_6_code
def y_Ch_keepRest : MethodName := ⟨R_Ch, "keepRest", "(LSturmDesk$Poly;ILSturmDesk$Bench;)V"⟩
theorem hd_Ch_keepRest : y_Ch_keepRest.cls ≠ "java/lang/invoke/MethodHandle" ∧ y_Ch_keepRest.cls ≠ "java/lang/invoke/VarHandle" ∧ (parseMethodDescriptor y_Ch_keepRest.desc).map (fun d => d.parameters.length) = some 3 := by decide +kernel
abbrev b_Ch_raiseHeight : ByteArray := prog_3_method_7_code
def y_Ch_raiseHeight : MethodName := ⟨R_Ch, "raiseHeight", "(ILSturmDesk$Bench;)V"⟩
theorem hd_Ch_raiseHeight : y_Ch_raiseHeight.cls ≠ "java/lang/invoke/MethodHandle" ∧ y_Ch_raiseHeight.cls ≠ "java/lang/invoke/VarHandle" ∧ (parseMethodDescriptor y_Ch_raiseHeight.desc).map (fun d => d.parameters.length) = some 2 := by decide +kernel
abbrev b_Ch_changesAt : ByteArray := prog_3_method_8_code
def y_Ch_changesAt : MethodName := ⟨R_Ch, "changesAt", "(LSturmDesk$Point;LSturmDesk$Bench;)I"⟩
theorem hd_Ch_changesAt : y_Ch_changesAt.cls ≠ "java/lang/invoke/MethodHandle" ∧ y_Ch_changesAt.cls ≠ "java/lang/invoke/VarHandle" ∧ (parseMethodDescriptor y_Ch_changesAt.desc).map (fun d => d.parameters.length) = some 2 := by decide +kernel
abbrev b_Ch_turnedChangesAt : ByteArray := prog_3_method_9_code
def y_Ch_turnedChangesAt : MethodName := ⟨R_Ch, "turnedChangesAt", "(LSturmDesk$Point;LSturmDesk$Bench;)I"⟩
theorem hd_Ch_turnedChangesAt : y_Ch_turnedChangesAt.cls ≠ "java/lang/invoke/MethodHandle" ∧ y_Ch_turnedChangesAt.cls ≠ "java/lang/invoke/VarHandle" ∧ (parseMethodDescriptor y_Ch_turnedChangesAt.desc).map (fun d => d.parameters.length) = some 2 := by decide +kernel
abbrev b_Ch_changesFar : ByteArray := prog_3_method_10_code
def y_Ch_changesFar : MethodName := ⟨R_Ch, "changesFar", "(I)I"⟩
theorem hd_Ch_changesFar : y_Ch_changesFar.cls ≠ "java/lang/invoke/MethodHandle" ∧ y_Ch_changesFar.cls ≠ "java/lang/invoke/VarHandle" ∧ (parseMethodDescriptor y_Ch_changesFar.desc).map (fun d => d.parameters.length) = some 1 := by decide +kernel
abbrev b_Ch_realRoots : ByteArray := prog_3_method_11_code
def y_Ch_realRoots : MethodName := ⟨R_Ch, "realRoots", "()I"⟩
theorem hd_Ch_realRoots : y_Ch_realRoots.cls ≠ "java/lang/invoke/MethodHandle" ∧ y_Ch_realRoots.cls ≠ "java/lang/invoke/VarHandle" ∧ (parseMethodDescriptor y_Ch_realRoots.desc).map (fun d => d.parameters.length) = some 0 := by decide +kernel
abbrev b_Ro_init : ByteArray := prog_10_method_1_code
def y_Ro_init : MethodName := ⟨R_Ro, "<init>", "()V"⟩
theorem hd_Ro_init : y_Ro_init.cls ≠ "java/lang/invoke/MethodHandle" ∧ y_Ro_init.cls ≠ "java/lang/invoke/VarHandle" ∧ (parseMethodDescriptor y_Ro_init.desc).map (fun d => d.parameters.length) = some 0 := by decide +kernel
abbrev b_Ro_toLow : ByteArray := prog_10_method_2_code
def y_Ro_toLow : MethodName := ⟨R_Ro, "toLow", "(LSturmDesk$Point;)V"⟩
theorem hd_Ro_toLow : y_Ro_toLow.cls ≠ "java/lang/invoke/MethodHandle" ∧ y_Ro_toLow.cls ≠ "java/lang/invoke/VarHandle" ∧ (parseMethodDescriptor y_Ro_toLow.desc).map (fun d => d.parameters.length) = some 1 := by decide +kernel
abbrev b_Ro_toHigh : ByteArray := prog_10_method_3_code
def y_Ro_toHigh : MethodName := ⟨R_Ro, "toHigh", "(LSturmDesk$Point;)V"⟩
theorem hd_Ro_toHigh : y_Ro_toHigh.cls ≠ "java/lang/invoke/MethodHandle" ∧ y_Ro_toHigh.cls ≠ "java/lang/invoke/VarHandle" ∧ (parseMethodDescriptor y_Ro_toHigh.desc).map (fun d => d.parameters.length) = some 1 := by decide +kernel
abbrev b_Ro_toMiddle : ByteArray := prog_10_method_4_code
def y_Ro_toMiddle : MethodName := ⟨R_Ro, "toMiddle", "(LSturmDesk$Point;)V"⟩
theorem hd_Ro_toMiddle : y_Ro_toMiddle.cls ≠ "java/lang/invoke/MethodHandle" ∧ y_Ro_toMiddle.cls ≠ "java/lang/invoke/VarHandle" ∧ (parseMethodDescriptor y_Ro_toMiddle.desc).map (fun d => d.parameters.length) = some 1 := by decide +kernel
abbrev b_Ro_halve : ByteArray := prog_10_method_5_code
def y_Ro_halve : MethodName := ⟨R_Ro, "halve", "(Z)V"⟩
theorem hd_Ro_halve : y_Ro_halve.cls ≠ "java/lang/invoke/MethodHandle" ∧ y_Ro_halve.cls ≠ "java/lang/invoke/VarHandle" ∧ (parseMethodDescriptor y_Ro_halve.desc).map (fun d => d.parameters.length) = some 1 := by decide +kernel
abbrev b_He_init : ByteArray := prog_5_method_1_code
def y_He_init : MethodName := ⟨R_He, "<init>", "()V"⟩
theorem hd_He_init : y_He_init.cls ≠ "java/lang/invoke/MethodHandle" ∧ y_He_init.cls ≠ "java/lang/invoke/VarHandle" ∧ (parseMethodDescriptor y_He_init.desc).map (fun d => d.parameters.length) = some 0 := by decide +kernel
abbrev b_He_change : ByteArray := prog_5_method_2_code
def y_He_change : MethodName := ⟨R_He, "change", "(II)V"⟩
theorem hd_He_change : y_He_change.cls ≠ "java/lang/invoke/MethodHandle" ∧ y_He_change.cls ≠ "java/lang/invoke/VarHandle" ∧ (parseMethodDescriptor y_He_change.desc).map (fun d => d.parameters.length) = some 2 := by decide +kernel
abbrev b_He_prepare : ByteArray := prog_5_method_3_code
def y_He_prepare : MethodName := ⟨R_He, "prepare", "(LSturmDesk$Bench;)V"⟩
theorem hd_He_prepare : y_He_prepare.cls ≠ "java/lang/invoke/MethodHandle" ∧ y_He_prepare.cls ≠ "java/lang/invoke/VarHandle" ∧ (parseMethodDescriptor y_He_prepare.desc).map (fun d => d.parameters.length) = some 1 := by decide +kernel
abbrev b_He_reachOfRoots : ByteArray := prog_5_method_4_code
def y_He_reachOfRoots : MethodName := ⟨R_He, "reachOfRoots", "()I"⟩
theorem hd_He_reachOfRoots : y_He_reachOfRoots.cls ≠ "java/lang/invoke/MethodHandle" ∧ y_He_reachOfRoots.cls ≠ "java/lang/invoke/VarHandle" ∧ (parseMethodDescriptor y_He_reachOfRoots.desc).map (fun d => d.parameters.length) = some 0 := by decide +kernel
abbrev b_He_countUpTo : ByteArray := prog_5_method_5_code
def y_He_countUpTo : MethodName := ⟨R_He, "countUpTo", "(LSturmDesk$Point;LSturmDesk$Bench;)I"⟩
theorem hd_He_countUpTo : y_He_countUpTo.cls ≠ "java/lang/invoke/MethodHandle" ∧ y_He_countUpTo.cls ≠ "java/lang/invoke/VarHandle" ∧ (parseMethodDescriptor y_He_countUpTo.desc).map (fun d => d.parameters.length) = some 2 := by decide +kernel
abbrev b_He_sideOf : ByteArray := prog_5_method_6_code
def y_He_sideOf : MethodName := ⟨R_He, "sideOf", "(ILSturmDesk$Point;LSturmDesk$Bench;)I"⟩
theorem hd_He_sideOf : y_He_sideOf.cls ≠ "java/lang/invoke/MethodHandle" ∧ y_He_sideOf.cls ≠ "java/lang/invoke/VarHandle" ∧ (parseMethodDescriptor y_He_sideOf.desc).map (fun d => d.parameters.length) = some 3 := by decide +kernel
abbrev b_He_isolate : ByteArray := prog_5_method_7_code
def y_He_isolate : MethodName := ⟨R_He, "isolate", "(ILSturmDesk$Bench;)V"⟩
theorem hd_He_isolate : y_He_isolate.cls ≠ "java/lang/invoke/MethodHandle" ∧ y_He_isolate.cls ≠ "java/lang/invoke/VarHandle" ∧ (parseMethodDescriptor y_He_isolate.desc).map (fun d => d.parameters.length) = some 2 := by decide +kernel
abbrev b_He_refine : ByteArray := prog_5_method_8_code
def y_He_refine : MethodName := ⟨R_He, "refine", "(IILSturmDesk$Bench;)V"⟩
theorem hd_He_refine : y_He_refine.cls ≠ "java/lang/invoke/MethodHandle" ∧ y_He_refine.cls ≠ "java/lang/invoke/VarHandle" ∧ (parseMethodDescriptor y_He_refine.desc).map (fun d => d.parameters.length) = some 3 := by decide +kernel
abbrev b_He_halveAtMiddle : ByteArray := prog_5_method_9_code
def y_He_halveAtMiddle : MethodName := ⟨R_He, "halveAtMiddle", "(LSturmDesk$Root;LSturmDesk$Bench;)V"⟩
theorem hd_He_halveAtMiddle : y_He_halveAtMiddle.cls ≠ "java/lang/invoke/MethodHandle" ∧ y_He_halveAtMiddle.cls ≠ "java/lang/invoke/VarHandle" ∧ (parseMethodDescriptor y_He_halveAtMiddle.desc).map (fun d => d.parameters.length) = some 2 := by decide +kernel
abbrev b_He_leap : ByteArray := prog_5_method_10_code
def y_He_leap : MethodName := ⟨R_He, "leap", "(LSturmDesk$Root;ILSturmDesk$Bench;)Z"⟩
theorem hd_He_leap : y_He_leap.cls ≠ "java/lang/invoke/MethodHandle" ∧ y_He_leap.cls ≠ "java/lang/invoke/VarHandle" ∧ (parseMethodDescriptor y_He_leap.desc).map (fun d => d.parameters.length) = some 3 := by decide +kernel
abbrev b_He_guessOnLine : ByteArray := prog_5_method_11_code
def y_He_guessOnLine : MethodName := ⟨R_He, "guessOnLine", "(LSturmDesk$Root;ILSturmDesk$Bench;)V"⟩
theorem hd_He_guessOnLine : y_He_guessOnLine.cls ≠ "java/lang/invoke/MethodHandle" ∧ y_He_guessOnLine.cls ≠ "java/lang/invoke/VarHandle" ∧ (parseMethodDescriptor y_He_guessOnLine.desc).map (fun d => d.parameters.length) = some 3 := by decide +kernel
abbrev b_He_floorTwo : ByteArray := prog_5_method_12_code
def y_He_floorTwo : MethodName := ⟨R_He, "floorTwo", "(IILSturmDesk$Bench;)LSturmDesk$Num;"⟩
theorem hd_He_floorTwo : y_He_floorTwo.cls ≠ "java/lang/invoke/MethodHandle" ∧ y_He_floorTwo.cls ≠ "java/lang/invoke/VarHandle" ∧ (parseMethodDescriptor y_He_floorTwo.desc).map (fun d => d.parameters.length) = some 3 := by decide +kernel
abbrev b_He_floorTen : ByteArray := prog_5_method_13_code
def y_He_floorTen : MethodName := ⟨R_He, "floorTen", "(IILSturmDesk$Bench;)LSturmDesk$Num;"⟩
theorem hd_He_floorTen : y_He_floorTen.cls ≠ "java/lang/invoke/MethodHandle" ∧ y_He_floorTen.cls ≠ "java/lang/invoke/VarHandle" ∧ (parseMethodDescriptor y_He_floorTen.desc).map (fun d => d.parameters.length) = some 3 := by decide +kernel
abbrev b_He_firstLevelApart : ByteArray := prog_5_method_14_code
def y_He_firstLevelApart : MethodName := ⟨R_He, "firstLevelApart", "(ILSturmDesk$Bench;)I"⟩
theorem hd_He_firstLevelApart : y_He_firstLevelApart.cls ≠ "java/lang/invoke/MethodHandle" ∧ y_He_firstLevelApart.cls ≠ "java/lang/invoke/VarHandle" ∧ (parseMethodDescriptor y_He_firstLevelApart.desc).map (fun d => d.parameters.length) = some 2 := by decide +kernel
abbrev b_Qu_init : ByteArray := prog_9_method_1_code
def y_Qu_init : MethodName := ⟨R_Qu, "<init>", "()V"⟩
theorem hd_Qu_init : y_Qu_init.cls ≠ "java/lang/invoke/MethodHandle" ∧ y_Qu_init.cls ≠ "java/lang/invoke/VarHandle" ∧ (parseMethodDescriptor y_Qu_init.desc).map (fun d => d.parameters.length) = some 0 := by decide +kernel
abbrev b_Qu_signOn : ByteArray := prog_9_method_2_code
def y_Qu_signOn : MethodName := ⟨R_Qu, "signOn", "(LSturmDesk$Held;LSturmDesk$Root;LSturmDesk$Poly;LSturmDesk$Bench;)I"⟩
theorem hd_Qu_signOn : y_Qu_signOn.cls ≠ "java/lang/invoke/MethodHandle" ∧ y_Qu_signOn.cls ≠ "java/lang/invoke/VarHandle" ∧ (parseMethodDescriptor y_Qu_signOn.desc).map (fun d => d.parameters.length) = some 4 := by decide +kernel
abbrev b_Qu_multiply : ByteArray := prog_9_method_3_code
def y_Qu_multiply : MethodName := ⟨R_Qu, "multiply", "(LSturmDesk$Poly;LSturmDesk$Poly;LSturmDesk$Bench;)V"⟩
theorem hd_Qu_multiply : y_Qu_multiply.cls ≠ "java/lang/invoke/MethodHandle" ∧ y_Qu_multiply.cls ≠ "java/lang/invoke/VarHandle" ∧ (parseMethodDescriptor y_Qu_multiply.desc).map (fun d => d.parameters.length) = some 3 := by decide +kernel
abbrev b_Qu_multiplicity : ByteArray := prog_9_method_4_code
def y_Qu_multiplicity : MethodName := ⟨R_Qu, "multiplicity", "(LSturmDesk$Held;LSturmDesk$Root;LSturmDesk$Bench;)I"⟩
theorem hd_Qu_multiplicity : y_Qu_multiplicity.cls ≠ "java/lang/invoke/MethodHandle" ∧ y_Qu_multiplicity.cls ≠ "java/lang/invoke/VarHandle" ∧ (parseMethodDescriptor y_Qu_multiplicity.desc).map (fun d => d.parameters.length) = some 3 := by decide +kernel
abbrev b_Qu_compare : ByteArray := prog_9_method_5_code
def y_Qu_compare : MethodName := ⟨R_Qu, "compare", "(LSturmDesk$Held;ILSturmDesk$Held;ILSturmDesk$Bench;)I"⟩
theorem hd_Qu_compare : y_Qu_compare.cls ≠ "java/lang/invoke/MethodHandle" ∧ y_Qu_compare.cls ≠ "java/lang/invoke/VarHandle" ∧ (parseMethodDescriptor y_Qu_compare.desc).map (fun d => d.parameters.length) = some 5 := by decide +kernel
abbrev b_Qu_countShared : ByteArray := prog_9_method_6_code
def y_Qu_countShared : MethodName := ⟨R_Qu, "countShared", "(LSturmDesk$Held;LSturmDesk$Held;LSturmDesk$Bench;)I"⟩
theorem hd_Qu_countShared : y_Qu_countShared.cls ≠ "java/lang/invoke/MethodHandle" ∧ y_Qu_countShared.cls ≠ "java/lang/invoke/VarHandle" ∧ (parseMethodDescriptor y_Qu_countShared.desc).map (fun d => d.parameters.length) = some 3 := by decide +kernel
abbrev b_Tx_init : ByteArray := prog_11_method_1_code
def y_Tx_init : MethodName := ⟨R_Tx, "<init>", "()V"⟩
theorem hd_Tx_init : y_Tx_init.cls ≠ "java/lang/invoke/MethodHandle" ∧ y_Tx_init.cls ≠ "java/lang/invoke/VarHandle" ∧ (parseMethodDescriptor y_Tx_init.desc).map (fun d => d.parameters.length) = some 0 := by decide +kernel
abbrev b_Tx_write : ByteArray := prog_11_method_2_code
def y_Tx_write : MethodName := ⟨R_Tx, "write", "(LSturmDesk$Num;)I"⟩
theorem hd_Tx_write : y_Tx_write.cls ≠ "java/lang/invoke/MethodHandle" ∧ y_Tx_write.cls ≠ "java/lang/invoke/VarHandle" ∧ (parseMethodDescriptor y_Tx_write.desc).map (fun d => d.parameters.length) = some 1 := by decide +kernel
abbrev b_Tx_eightFrom : ByteArray := prog_11_method_3_code
def y_Tx_eightFrom : MethodName := ⟨R_Tx, "eightFrom", "(I)J"⟩
theorem hd_Tx_eightFrom : y_Tx_eightFrom.cls ≠ "java/lang/invoke/MethodHandle" ∧ y_Tx_eightFrom.cls ≠ "java/lang/invoke/VarHandle" ∧ (parseMethodDescriptor y_Tx_eightFrom.desc).map (fun d => d.parameters.length) = some 1 := by decide +kernel
abbrev b_D_init : ByteArray := prog_1_method_1_code
def y_D_init : MethodName := ⟨R_D, "<init>", "()V"⟩
theorem hd_D_init : y_D_init.cls ≠ "java/lang/invoke/MethodHandle" ∧ y_D_init.cls ≠ "java/lang/invoke/VarHandle" ∧ (parseMethodDescriptor y_D_init.desc).map (fun d => d.parameters.length) = some 0 := by decide +kernel
abbrev b_D_put : ByteArray := prog_1_method_2_code
def y_D_put : MethodName := ⟨R_D, "put", "(III)V"⟩
theorem hd_D_put : y_D_put.cls ≠ "java/lang/invoke/MethodHandle" ∧ y_D_put.cls ≠ "java/lang/invoke/VarHandle" ∧ (parseMethodDescriptor y_D_put.desc).map (fun d => d.parameters.length) = some 3 := by decide +kernel
abbrev b_D_degree : ByteArray := prog_1_method_3_code
def y_D_degree : MethodName := ⟨R_D, "degree", "(I)I"⟩
theorem hd_D_degree : y_D_degree.cls ≠ "java/lang/invoke/MethodHandle" ∧ y_D_degree.cls ≠ "java/lang/invoke/VarHandle" ∧ (parseMethodDescriptor y_D_degree.desc).map (fun d => d.parameters.length) = some 1 := by decide +kernel
abbrev b_D_roots : ByteArray := prog_1_method_4_code
def y_D_roots : MethodName := ⟨R_D, "roots", "(I)I"⟩
theorem hd_D_roots : y_D_roots.cls ≠ "java/lang/invoke/MethodHandle" ∧ y_D_roots.cls ≠ "java/lang/invoke/VarHandle" ∧ (parseMethodDescriptor y_D_roots.desc).map (fun d => d.parameters.length) = some 1 := by decide +kernel
abbrev b_D_repeated : ByteArray := prog_1_method_5_code
def y_D_repeated : MethodName := ⟨R_D, "repeated", "(I)I"⟩
theorem hd_D_repeated : y_D_repeated.cls ≠ "java/lang/invoke/MethodHandle" ∧ y_D_repeated.cls ≠ "java/lang/invoke/VarHandle" ∧ (parseMethodDescriptor y_D_repeated.desc).map (fun d => d.parameters.length) = some 1 := by decide +kernel
abbrev b_D_sign : ByteArray := prog_1_method_6_code
def y_D_sign : MethodName := ⟨R_D, "sign", "(IJI)I"⟩
theorem hd_D_sign : y_D_sign.cls ≠ "java/lang/invoke/MethodHandle" ∧ y_D_sign.cls ≠ "java/lang/invoke/VarHandle" ∧ (parseMethodDescriptor y_D_sign.desc).map (fun d => d.parameters.length) = some 3 := by decide +kernel
abbrev b_D_between : ByteArray := prog_1_method_7_code
def y_D_between : MethodName := ⟨R_D, "between", "(IJIJI)I"⟩
theorem hd_D_between : y_D_between.cls ≠ "java/lang/invoke/MethodHandle" ∧ y_D_between.cls ≠ "java/lang/invoke/VarHandle" ∧ (parseMethodDescriptor y_D_between.desc).map (fun d => d.parameters.length) = some 5 := by decide +kernel
abbrev b_D_multiple : ByteArray := prog_1_method_8_code
def y_D_multiple : MethodName := ⟨R_D, "multiple", "(II)I"⟩
theorem hd_D_multiple : y_D_multiple.cls ≠ "java/lang/invoke/MethodHandle" ∧ y_D_multiple.cls ≠ "java/lang/invoke/VarHandle" ∧ (parseMethodDescriptor y_D_multiple.desc).map (fun d => d.parameters.length) = some 2 := by decide +kernel
abbrev b_D_side : ByteArray := prog_1_method_9_code
def y_D_side : MethodName := ⟨R_D, "side", "(IIJI)I"⟩
theorem hd_D_side : y_D_side.cls ≠ "java/lang/invoke/MethodHandle" ∧ y_D_side.cls ≠ "java/lang/invoke/VarHandle" ∧ (parseMethodDescriptor y_D_side.desc).map (fun d => d.parameters.length) = some 4 := by decide +kernel
abbrev b_D_floor : ByteArray := prog_1_method_10_code
def y_D_floor : MethodName := ⟨R_D, "floor", "(IIZI)I"⟩
theorem hd_D_floor : y_D_floor.cls ≠ "java/lang/invoke/MethodHandle" ∧ y_D_floor.cls ≠ "java/lang/invoke/VarHandle" ∧ (parseMethodDescriptor y_D_floor.desc).map (fun d => d.parameters.length) = some 4 := by decide +kernel
abbrev b_D_apart : ByteArray := prog_1_method_11_code
def y_D_apart : MethodName := ⟨R_D, "apart", "(I)I"⟩
theorem hd_D_apart : y_D_apart.cls ≠ "java/lang/invoke/MethodHandle" ∧ y_D_apart.cls ≠ "java/lang/invoke/VarHandle" ∧ (parseMethodDescriptor y_D_apart.desc).map (fun d => d.parameters.length) = some 1 := by decide +kernel
abbrev b_D_order : ByteArray := prog_1_method_12_code
def y_D_order : MethodName := ⟨R_D, "order", "(II)I"⟩
theorem hd_D_order : y_D_order.cls ≠ "java/lang/invoke/MethodHandle" ∧ y_D_order.cls ≠ "java/lang/invoke/VarHandle" ∧ (parseMethodDescriptor y_D_order.desc).map (fun d => d.parameters.length) = some 2 := by decide +kernel
abbrev b_D_signAt : ByteArray := prog_1_method_13_code
def y_D_signAt : MethodName := ⟨R_D, "signAt", "(II)I"⟩
theorem hd_D_signAt : y_D_signAt.cls ≠ "java/lang/invoke/MethodHandle" ∧ y_D_signAt.cls ≠ "java/lang/invoke/VarHandle" ∧ (parseMethodDescriptor y_D_signAt.desc).map (fun d => d.parameters.length) = some 2 := by decide +kernel
abbrev b_D_common : ByteArray := prog_1_method_14_code
def y_D_common : MethodName := ⟨R_D, "common", "()I"⟩
theorem hd_D_common : y_D_common.cls ≠ "java/lang/invoke/MethodHandle" ∧ y_D_common.cls ≠ "java/lang/invoke/VarHandle" ∧ (parseMethodDescriptor y_D_common.desc).map (fun d => d.parameters.length) = some 0 := by decide +kernel
abbrev b_D_out : ByteArray := prog_1_method_15_code
def y_D_out : MethodName := ⟨R_D, "out", "(I)J"⟩
theorem hd_D_out : y_D_out.cls ≠ "java/lang/invoke/MethodHandle" ∧ y_D_out.cls ≠ "java/lang/invoke/VarHandle" ∧ (parseMethodDescriptor y_D_out.desc).map (fun d => d.parameters.length) = some 1 := by decide +kernel
abbrev b_D_checkPolynomial : ByteArray := prog_1_method_16_code
def y_D_checkPolynomial : MethodName := ⟨R_D, "checkPolynomial", "(I)V"⟩
theorem hd_D_checkPolynomial : y_D_checkPolynomial.cls ≠ "java/lang/invoke/MethodHandle" ∧ y_D_checkPolynomial.cls ≠ "java/lang/invoke/VarHandle" ∧ (parseMethodDescriptor y_D_checkPolynomial.desc).map (fun d => d.parameters.length) = some 1 := by decide +kernel
abbrev b_D_checkExponent : ByteArray := prog_1_method_17_code
def y_D_checkExponent : MethodName := ⟨R_D, "checkExponent", "(I)V"⟩
theorem hd_D_checkExponent : y_D_checkExponent.cls ≠ "java/lang/invoke/MethodHandle" ∧ y_D_checkExponent.cls ≠ "java/lang/invoke/VarHandle" ∧ (parseMethodDescriptor y_D_checkExponent.desc).map (fun d => d.parameters.length) = some 1 := by decide +kernel
abbrev b_D_some : ByteArray := prog_1_method_18_code
def y_D_some : MethodName := ⟨R_D, "some", "(I)LSturmDesk$Held;"⟩
theorem hd_D_some : y_D_some.cls ≠ "java/lang/invoke/MethodHandle" ∧ y_D_some.cls ≠ "java/lang/invoke/VarHandle" ∧ (parseMethodDescriptor y_D_some.desc).map (fun d => d.parameters.length) = some 1 := by decide +kernel
abbrev b_D_checkRoot : ByteArray := prog_1_method_19_code
def y_D_checkRoot : MethodName := ⟨R_D, "checkRoot", "(LSturmDesk$Held;I)V"⟩
theorem hd_D_checkRoot : y_D_checkRoot.cls ≠ "java/lang/invoke/MethodHandle" ∧ y_D_checkRoot.cls ≠ "java/lang/invoke/VarHandle" ∧ (parseMethodDescriptor y_D_checkRoot.desc).map (fun d => d.parameters.length) = some 2 := by decide +kernel
abbrev b_Mo_init : ByteArray := prog_13_method_1_code
def y_Mo_init : MethodName := ⟨R_Mo, "<init>", "()V"⟩
theorem hd_Mo_init : y_Mo_init.cls ≠ "java/lang/invoke/MethodHandle" ∧ y_Mo_init.cls ≠ "java/lang/invoke/VarHandle" ∧ (parseMethodDescriptor y_Mo_init.desc).map (fun d => d.parameters.length) = some 0 := by decide +kernel
abbrev b_Mo_thrown : ByteArray := prog_13_method_2_code
def y_Mo_thrown : MethodName := ⟨R_Mo, "thrown", "()I"⟩
theorem hd_Mo_thrown : y_Mo_thrown.cls ≠ "java/lang/invoke/MethodHandle" ∧ y_Mo_thrown.cls ≠ "java/lang/invoke/VarHandle" ∧ (parseMethodDescriptor y_Mo_thrown.desc).map (fun d => d.parameters.length) = some 0 := by decide +kernel
abbrev b_Mo_fails : ByteArray := prog_13_method_3_code
def y_Mo_fails : MethodName := ⟨R_Mo, "fails", "(ZI)Z"⟩
theorem hd_Mo_fails : y_Mo_fails.cls ≠ "java/lang/invoke/MethodHandle" ∧ y_Mo_fails.cls ≠ "java/lang/invoke/VarHandle" ∧ (parseMethodDescriptor y_Mo_fails.desc).map (fun d => d.parameters.length) = some 2 := by decide +kernel
abbrev b_Mo_in : ByteArray := prog_13_method_4_code
def y_Mo_in : MethodName := ⟨R_Mo, "in", "(JJJ)Z"⟩
theorem hd_Mo_in : y_Mo_in.cls ≠ "java/lang/invoke/MethodHandle" ∧ y_Mo_in.cls ≠ "java/lang/invoke/VarHandle" ∧ (parseMethodDescriptor y_Mo_in.desc).map (fun d => d.parameters.length) = some 3 := by decide +kernel
abbrev b_Mo_set : ByteArray := prog_13_method_5_code
def y_Mo_set : MethodName := ⟨R_Mo, "set", "(IJ)V"⟩
theorem hd_Mo_set : y_Mo_set.cls ≠ "java/lang/invoke/MethodHandle" ∧ y_Mo_set.cls ≠ "java/lang/invoke/VarHandle" ∧ (parseMethodDescriptor y_Mo_set.desc).map (fun d => d.parameters.length) = some 2 := by decide +kernel
abbrev b_Mo_copy : ByteArray := prog_13_method_6_code
def y_Mo_copy : MethodName := ⟨R_Mo, "copy", "(II)V"⟩
theorem hd_Mo_copy : y_Mo_copy.cls ≠ "java/lang/invoke/MethodHandle" ∧ y_Mo_copy.cls ≠ "java/lang/invoke/VarHandle" ∧ (parseMethodDescriptor y_Mo_copy.desc).map (fun d => d.parameters.length) = some 2 := by decide +kernel
abbrev b_Mo_at : ByteArray := prog_13_method_7_code
def y_Mo_at : MethodName := ⟨R_Mo, "at", "(II)I"⟩
theorem hd_Mo_at : y_Mo_at.cls ≠ "java/lang/invoke/MethodHandle" ∧ y_Mo_at.cls ≠ "java/lang/invoke/VarHandle" ∧ (parseMethodDescriptor y_Mo_at.desc).map (fun d => d.parameters.length) = some 2 := by decide +kernel
abbrev b_Mo_trim : ByteArray := prog_13_method_8_code
def y_Mo_trim : MethodName := ⟨R_Mo, "trim", "(II)V"⟩
theorem hd_Mo_trim : y_Mo_trim.cls ≠ "java/lang/invoke/MethodHandle" ∧ y_Mo_trim.cls ≠ "java/lang/invoke/VarHandle" ∧ (parseMethodDescriptor y_Mo_trim.desc).map (fun d => d.parameters.length) = some 2 := by decide +kernel
abbrev b_Mo_against : ByteArray := prog_13_method_9_code
def y_Mo_against : MethodName := ⟨R_Mo, "against", "(II)I"⟩
theorem hd_Mo_against : y_Mo_against.cls ≠ "java/lang/invoke/MethodHandle" ∧ y_Mo_against.cls ≠ "java/lang/invoke/VarHandle" ∧ (parseMethodDescriptor y_Mo_against.desc).map (fun d => d.parameters.length) = some 2 := by decide +kernel
abbrev b_Mo_compareRows : ByteArray := prog_13_method_10_code
def y_Mo_compareRows : MethodName := ⟨R_Mo, "compareRows", "(II)I"⟩
theorem hd_Mo_compareRows : y_Mo_compareRows.cls ≠ "java/lang/invoke/MethodHandle" ∧ y_Mo_compareRows.cls ≠ "java/lang/invoke/VarHandle" ∧ (parseMethodDescriptor y_Mo_compareRows.desc).map (fun d => d.parameters.length) = some 2 := by decide +kernel
abbrev b_Mo_sum : ByteArray := prog_13_method_11_code
def y_Mo_sum : MethodName := ⟨R_Mo, "sum", "(IIII)V"⟩
theorem hd_Mo_sum : y_Mo_sum.cls ≠ "java/lang/invoke/MethodHandle" ∧ y_Mo_sum.cls ≠ "java/lang/invoke/VarHandle" ∧ (parseMethodDescriptor y_Mo_sum.desc).map (fun d => d.parameters.length) = some 4 := by decide +kernel
abbrev b_Mo_takes : ByteArray := prog_13_method_12_code
def y_Mo_takes : MethodName := ⟨R_Mo, "takes", "(III)V"⟩
theorem hd_Mo_takes : y_Mo_takes.cls ≠ "java/lang/invoke/MethodHandle" ∧ y_Mo_takes.cls ≠ "java/lang/invoke/VarHandle" ∧ (parseMethodDescriptor y_Mo_takes.desc).map (fun d => d.parameters.length) = some 3 := by decide +kernel
abbrev b_Mo_product : ByteArray := prog_13_method_13_code
def y_Mo_product : MethodName := ⟨R_Mo, "product", "(III)V"⟩
theorem hd_Mo_product : y_Mo_product.cls ≠ "java/lang/invoke/MethodHandle" ∧ y_Mo_product.cls ≠ "java/lang/invoke/VarHandle" ∧ (parseMethodDescriptor y_Mo_product.desc).map (fun d => d.parameters.length) = some 3 := by decide +kernel
abbrev b_Mo_lift : ByteArray := prog_13_method_14_code
def y_Mo_lift : MethodName := ⟨R_Mo, "lift", "(III)V"⟩
theorem hd_Mo_lift : y_Mo_lift.cls ≠ "java/lang/invoke/MethodHandle" ∧ y_Mo_lift.cls ≠ "java/lang/invoke/VarHandle" ∧ (parseMethodDescriptor y_Mo_lift.desc).map (fun d => d.parameters.length) = some 3 := by decide +kernel
abbrev b_Mo_parts : ByteArray := prog_13_method_15_code
def y_Mo_parts : MethodName := ⟨R_Mo, "parts", "(II)I"⟩
theorem hd_Mo_parts : y_Mo_parts.cls ≠ "java/lang/invoke/MethodHandle" ∧ y_Mo_parts.cls ≠ "java/lang/invoke/VarHandle" ∧ (parseMethodDescriptor y_Mo_parts.desc).map (fun d => d.parameters.length) = some 2 := by decide +kernel
abbrev b_Mo_quotient : ByteArray := prog_13_method_16_code
def y_Mo_quotient : MethodName := ⟨R_Mo, "quotient", "(IIII)V"⟩
theorem hd_Mo_quotient : y_Mo_quotient.cls ≠ "java/lang/invoke/MethodHandle" ∧ y_Mo_quotient.cls ≠ "java/lang/invoke/VarHandle" ∧ (parseMethodDescriptor y_Mo_quotient.desc).map (fun d => d.parameters.length) = some 4 := by decide +kernel
abbrev b_Mo_guess : ByteArray := prog_13_method_17_code
def y_Mo_guess : MethodName := ⟨R_Mo, "guess", "(II)I"⟩
theorem hd_Mo_guess : y_Mo_guess.cls ≠ "java/lang/invoke/MethodHandle" ∧ y_Mo_guess.cls ≠ "java/lang/invoke/VarHandle" ∧ (parseMethodDescriptor y_Mo_guess.desc).map (fun d => d.parameters.length) = some 2 := by decide +kernel
abbrev b_Mo_lessens : ByteArray := prog_13_method_18_code
def y_Mo_lessens : MethodName := ⟨R_Mo, "lessens", "(III)V"⟩
theorem hd_Mo_lessens : y_Mo_lessens.cls ≠ "java/lang/invoke/MethodHandle" ∧ y_Mo_lessens.cls ≠ "java/lang/invoke/VarHandle" ∧ (parseMethodDescriptor y_Mo_lessens.desc).map (fun d => d.parameters.length) = some 3 := by decide +kernel
abbrev b_Mo_copyPoly : ByteArray := prog_13_method_19_code
def y_Mo_copyPoly : MethodName := ⟨R_Mo, "copyPoly", "(II)V"⟩
theorem hd_Mo_copyPoly : y_Mo_copyPoly.cls ≠ "java/lang/invoke/MethodHandle" ∧ y_Mo_copyPoly.cls ≠ "java/lang/invoke/VarHandle" ∧ (parseMethodDescriptor y_Mo_copyPoly.desc).map (fun d => d.parameters.length) = some 2 := by decide +kernel
abbrev b_Mo_trimPoly : ByteArray := prog_13_method_20_code
def y_Mo_trimPoly : MethodName := ⟨R_Mo, "trimPoly", "(II)V"⟩
theorem hd_Mo_trimPoly : y_Mo_trimPoly.cls ≠ "java/lang/invoke/MethodHandle" ∧ y_Mo_trimPoly.cls ≠ "java/lang/invoke/VarHandle" ∧ (parseMethodDescriptor y_Mo_trimPoly.desc).map (fun d => d.parameters.length) = some 2 := by decide +kernel
abbrev b_Mo_derive : ByteArray := prog_13_method_21_code
def y_Mo_derive : MethodName := ⟨R_Mo, "derive", "(II)V"⟩
theorem hd_Mo_derive : y_Mo_derive.cls ≠ "java/lang/invoke/MethodHandle" ∧ y_Mo_derive.cls ≠ "java/lang/invoke/VarHandle" ∧ (parseMethodDescriptor y_Mo_derive.desc).map (fun d => d.parameters.length) = some 2 := by decide +kernel
abbrev b_Mo_primitive : ByteArray := prog_13_method_22_code
def y_Mo_primitive : MethodName := ⟨R_Mo, "primitive", "(I)V"⟩
theorem hd_Mo_primitive : y_Mo_primitive.cls ≠ "java/lang/invoke/MethodHandle" ∧ y_Mo_primitive.cls ≠ "java/lang/invoke/VarHandle" ∧ (parseMethodDescriptor y_Mo_primitive.desc).map (fun d => d.parameters.length) = some 1 := by decide +kernel
abbrev b_Mo_remainder : ByteArray := prog_13_method_23_code
def y_Mo_remainder : MethodName := ⟨R_Mo, "remainder", "(II)V"⟩
theorem hd_Mo_remainder : y_Mo_remainder.cls ≠ "java/lang/invoke/MethodHandle" ∧ y_Mo_remainder.cls ≠ "java/lang/invoke/VarHandle" ∧ (parseMethodDescriptor y_Mo_remainder.desc).map (fun d => d.parameters.length) = some 2 := by decide +kernel
abbrev b_Mo_divisor : ByteArray := prog_13_method_24_code
def y_Mo_divisor : MethodName := ⟨R_Mo, "divisor", "(III)V"⟩
theorem hd_Mo_divisor : y_Mo_divisor.cls ≠ "java/lang/invoke/MethodHandle" ∧ y_Mo_divisor.cls ≠ "java/lang/invoke/VarHandle" ∧ (parseMethodDescriptor y_Mo_divisor.desc).map (fun d => d.parameters.length) = some 3 := by decide +kernel
abbrev b_Mo_exactly : ByteArray := prog_13_method_25_code
def y_Mo_exactly : MethodName := ⟨R_Mo, "exactly", "(III)V"⟩
theorem hd_Mo_exactly : y_Mo_exactly.cls ≠ "java/lang/invoke/MethodHandle" ∧ y_Mo_exactly.cls ≠ "java/lang/invoke/VarHandle" ∧ (parseMethodDescriptor y_Mo_exactly.desc).map (fun d => d.parameters.length) = some 3 := by decide +kernel
abbrev b_Mo_part : ByteArray := prog_13_method_26_code
def y_Mo_part : MethodName := ⟨R_Mo, "part", "(I)V"⟩
theorem hd_Mo_part : y_Mo_part.cls ≠ "java/lang/invoke/MethodHandle" ∧ y_Mo_part.cls ≠ "java/lang/invoke/VarHandle" ∧ (parseMethodDescriptor y_Mo_part.desc).map (fun d => d.parameters.length) = some 1 := by decide +kernel
abbrev b_Mo_signOf : ByteArray := prog_13_method_27_code
def y_Mo_signOf : MethodName := ⟨R_Mo, "signOf", "(III)I"⟩
theorem hd_Mo_signOf : y_Mo_signOf.cls ≠ "java/lang/invoke/MethodHandle" ∧ y_Mo_signOf.cls ≠ "java/lang/invoke/VarHandle" ∧ (parseMethodDescriptor y_Mo_signOf.desc).map (fun d => d.parameters.length) = some 3 := by decide +kernel
abbrev b_Mo_lower : ByteArray := prog_13_method_28_code
def y_Mo_lower : MethodName := ⟨R_Mo, "lower", "(III)I"⟩
theorem hd_Mo_lower : y_Mo_lower.cls ≠ "java/lang/invoke/MethodHandle" ∧ y_Mo_lower.cls ≠ "java/lang/invoke/VarHandle" ∧ (parseMethodDescriptor y_Mo_lower.desc).map (fun d => d.parameters.length) = some 3 := by decide +kernel
abbrev b_Mo_changes : ByteArray := prog_13_method_29_code
def y_Mo_changes : MethodName := ⟨R_Mo, "changes", "(III)I"⟩
theorem hd_Mo_changes : y_Mo_changes.cls ≠ "java/lang/invoke/MethodHandle" ∧ y_Mo_changes.cls ≠ "java/lang/invoke/VarHandle" ∧ (parseMethodDescriptor y_Mo_changes.desc).map (fun d => d.parameters.length) = some 3 := by decide +kernel
abbrev b_Mo_cell : ByteArray := prog_13_method_30_code
def y_Mo_cell : MethodName := ⟨R_Mo, "cell", "(II)I"⟩
theorem hd_Mo_cell : y_Mo_cell.cls ≠ "java/lang/invoke/MethodHandle" ∧ y_Mo_cell.cls ≠ "java/lang/invoke/VarHandle" ∧ (parseMethodDescriptor y_Mo_cell.desc).map (fun d => d.parameters.length) = some 2 := by decide +kernel
abbrev b_Mo_keep : ByteArray := prog_13_method_31_code
def y_Mo_keep : MethodName := ⟨R_Mo, "keep", "(IIIZ)V"⟩
theorem hd_Mo_keep : y_Mo_keep.cls ≠ "java/lang/invoke/MethodHandle" ∧ y_Mo_keep.cls ≠ "java/lang/invoke/VarHandle" ∧ (parseMethodDescriptor y_Mo_keep.desc).map (fun d => d.parameters.length) = some 4 := by decide +kernel
abbrev b_Mo_isolates : ByteArray := prog_13_method_32_code
def y_Mo_isolates : MethodName := ⟨R_Mo, "isolates", "(I)V"⟩
theorem hd_Mo_isolates : y_Mo_isolates.cls ≠ "java/lang/invoke/MethodHandle" ∧ y_Mo_isolates.cls ≠ "java/lang/invoke/VarHandle" ∧ (parseMethodDescriptor y_Mo_isolates.desc).map (fun d => d.parameters.length) = some 1 := by decide +kernel
abbrev b_Mo_refines : ByteArray := prog_13_method_33_code
def y_Mo_refines : MethodName := ⟨R_Mo, "refines", "(II)V"⟩
theorem hd_Mo_refines : y_Mo_refines.cls ≠ "java/lang/invoke/MethodHandle" ∧ y_Mo_refines.cls ≠ "java/lang/invoke/VarHandle" ∧ (parseMethodDescriptor y_Mo_refines.desc).map (fun d => d.parameters.length) = some 2 := by decide +kernel
abbrev b_Mo_sideOf : ByteArray := prog_13_method_34_code
def y_Mo_sideOf : MethodName := ⟨R_Mo, "sideOf", "(III)I"⟩
theorem hd_Mo_sideOf : y_Mo_sideOf.cls ≠ "java/lang/invoke/MethodHandle" ∧ y_Mo_sideOf.cls ≠ "java/lang/invoke/VarHandle" ∧ (parseMethodDescriptor y_Mo_sideOf.desc).map (fun d => d.parameters.length) = some 3 := by decide +kernel
abbrev b_Mo_refinesTo : ByteArray := prog_13_method_35_code
def y_Mo_refinesTo : MethodName := ⟨R_Mo, "refinesTo", "(III)V"⟩
theorem hd_Mo_refinesTo : y_Mo_refinesTo.cls ≠ "java/lang/invoke/MethodHandle" ∧ y_Mo_refinesTo.cls ≠ "java/lang/invoke/VarHandle" ∧ (parseMethodDescriptor y_Mo_refinesTo.desc).map (fun d => d.parameters.length) = some 3 := by decide +kernel
abbrev b_Mo_lowOf : ByteArray := prog_13_method_36_code
def y_Mo_lowOf : MethodName := ⟨R_Mo, "lowOf", "(III)I"⟩
theorem hd_Mo_lowOf : y_Mo_lowOf.cls ≠ "java/lang/invoke/MethodHandle" ∧ y_Mo_lowOf.cls ≠ "java/lang/invoke/VarHandle" ∧ (parseMethodDescriptor y_Mo_lowOf.desc).map (fun d => d.parameters.length) = some 3 := by decide +kernel
abbrev b_Mo_put : ByteArray := prog_13_method_37_code
def y_Mo_put : MethodName := ⟨R_Mo, "put", "(III)V"⟩
theorem hd_Mo_put : y_Mo_put.cls ≠ "java/lang/invoke/MethodHandle" ∧ y_Mo_put.cls ≠ "java/lang/invoke/VarHandle" ∧ (parseMethodDescriptor y_Mo_put.desc).map (fun d => d.parameters.length) = some 3 := by decide +kernel
abbrev b_Mo_degree : ByteArray := prog_13_method_38_code
def y_Mo_degree : MethodName := ⟨R_Mo, "degree", "(I)I"⟩
theorem hd_Mo_degree : y_Mo_degree.cls ≠ "java/lang/invoke/MethodHandle" ∧ y_Mo_degree.cls ≠ "java/lang/invoke/VarHandle" ∧ (parseMethodDescriptor y_Mo_degree.desc).map (fun d => d.parameters.length) = some 1 := by decide +kernel
abbrev b_Mo_stops : ByteArray := prog_13_method_39_code
def y_Mo_stops : MethodName := ⟨R_Mo, "stops", "(IZ)Z"⟩
theorem hd_Mo_stops : y_Mo_stops.cls ≠ "java/lang/invoke/MethodHandle" ∧ y_Mo_stops.cls ≠ "java/lang/invoke/VarHandle" ∧ (parseMethodDescriptor y_Mo_stops.desc).map (fun d => d.parameters.length) = some 2 := by decide +kernel
abbrev b_Mo_roots : ByteArray := prog_13_method_40_code
def y_Mo_roots : MethodName := ⟨R_Mo, "roots", "(I)I"⟩
theorem hd_Mo_roots : y_Mo_roots.cls ≠ "java/lang/invoke/MethodHandle" ∧ y_Mo_roots.cls ≠ "java/lang/invoke/VarHandle" ∧ (parseMethodDescriptor y_Mo_roots.desc).map (fun d => d.parameters.length) = some 1 := by decide +kernel
abbrev b_Mo_repeated : ByteArray := prog_13_method_41_code
def y_Mo_repeated : MethodName := ⟨R_Mo, "repeated", "(I)I"⟩
theorem hd_Mo_repeated : y_Mo_repeated.cls ≠ "java/lang/invoke/MethodHandle" ∧ y_Mo_repeated.cls ≠ "java/lang/invoke/VarHandle" ∧ (parseMethodDescriptor y_Mo_repeated.desc).map (fun d => d.parameters.length) = some 1 := by decide +kernel
abbrev b_Mo_sign : ByteArray := prog_13_method_42_code
def y_Mo_sign : MethodName := ⟨R_Mo, "sign", "(IJI)I"⟩
theorem hd_Mo_sign : y_Mo_sign.cls ≠ "java/lang/invoke/MethodHandle" ∧ y_Mo_sign.cls ≠ "java/lang/invoke/VarHandle" ∧ (parseMethodDescriptor y_Mo_sign.desc).map (fun d => d.parameters.length) = some 3 := by decide +kernel
abbrev b_Mo_sideOfRoot : ByteArray := prog_13_method_43_code
def y_Mo_sideOfRoot : MethodName := ⟨R_Mo, "sideOfRoot", "(IIJI)I"⟩
theorem hd_Mo_sideOfRoot : y_Mo_sideOfRoot.cls ≠ "java/lang/invoke/MethodHandle" ∧ y_Mo_sideOfRoot.cls ≠ "java/lang/invoke/VarHandle" ∧ (parseMethodDescriptor y_Mo_sideOfRoot.desc).map (fun d => d.parameters.length) = some 4 := by decide +kernel
abbrev b_Mo_between : ByteArray := prog_13_method_44_code
def y_Mo_between : MethodName := ⟨R_Mo, "between", "(IJIJI)I"⟩
theorem hd_Mo_between : y_Mo_between.cls ≠ "java/lang/invoke/MethodHandle" ∧ y_Mo_between.cls ≠ "java/lang/invoke/VarHandle" ∧ (parseMethodDescriptor y_Mo_between.desc).map (fun d => d.parameters.length) = some 5 := by decide +kernel
abbrev b_Mo_isZeroAt : ByteArray := prog_13_method_45_code
def y_Mo_isZeroAt : MethodName := ⟨R_Mo, "isZeroAt", "(III)Z"⟩
theorem hd_Mo_isZeroAt : y_Mo_isZeroAt.cls ≠ "java/lang/invoke/MethodHandle" ∧ y_Mo_isZeroAt.cls ≠ "java/lang/invoke/VarHandle" ∧ (parseMethodDescriptor y_Mo_isZeroAt.desc).map (fun d => d.parameters.length) = some 3 := by decide +kernel
abbrev b_Mo_multiple : ByteArray := prog_13_method_46_code
def y_Mo_multiple : MethodName := ⟨R_Mo, "multiple", "(II)I"⟩
theorem hd_Mo_multiple : y_Mo_multiple.cls ≠ "java/lang/invoke/MethodHandle" ∧ y_Mo_multiple.cls ≠ "java/lang/invoke/VarHandle" ∧ (parseMethodDescriptor y_Mo_multiple.desc).map (fun d => d.parameters.length) = some 2 := by decide +kernel
abbrev b_Mo_side : ByteArray := prog_13_method_47_code
def y_Mo_side : MethodName := ⟨R_Mo, "side", "(IIJI)I"⟩
theorem hd_Mo_side : y_Mo_side.cls ≠ "java/lang/invoke/MethodHandle" ∧ y_Mo_side.cls ≠ "java/lang/invoke/VarHandle" ∧ (parseMethodDescriptor y_Mo_side.desc).map (fun d => d.parameters.length) = some 4 := by decide +kernel
abbrev b_Mo_falls : ByteArray := prog_13_method_48_code
def y_Mo_falls : MethodName := ⟨R_Mo, "falls", "(II)V"⟩
theorem hd_Mo_falls : y_Mo_falls.cls ≠ "java/lang/invoke/MethodHandle" ∧ y_Mo_falls.cls ≠ "java/lang/invoke/VarHandle" ∧ (parseMethodDescriptor y_Mo_falls.desc).map (fun d => d.parameters.length) = some 2 := by decide +kernel
abbrev b_Mo_signAtRatio : ByteArray := prog_13_method_49_code
def y_Mo_signAtRatio : MethodName := ⟨R_Mo, "signAtRatio", "(III)I"⟩
theorem hd_Mo_signAtRatio : y_Mo_signAtRatio.cls ≠ "java/lang/invoke/MethodHandle" ∧ y_Mo_signAtRatio.cls ≠ "java/lang/invoke/VarHandle" ∧ (parseMethodDescriptor y_Mo_signAtRatio.desc).map (fun d => d.parameters.length) = some 3 := by decide +kernel
abbrev b_Mo_floor : ByteArray := prog_13_method_50_code
def y_Mo_floor : MethodName := ⟨R_Mo, "floor", "(IIZI)I"⟩
theorem hd_Mo_floor : y_Mo_floor.cls ≠ "java/lang/invoke/MethodHandle" ∧ y_Mo_floor.cls ≠ "java/lang/invoke/VarHandle" ∧ (parseMethodDescriptor y_Mo_floor.desc).map (fun d => d.parameters.length) = some 4 := by decide +kernel
abbrev b_Mo_tens : ByteArray := prog_13_method_51_code
def y_Mo_tens : MethodName := ⟨R_Mo, "tens", "(IIIII)V"⟩
theorem hd_Mo_tens : y_Mo_tens.cls ≠ "java/lang/invoke/MethodHandle" ∧ y_Mo_tens.cls ≠ "java/lang/invoke/VarHandle" ∧ (parseMethodDescriptor y_Mo_tens.desc).map (fun d => d.parameters.length) = some 5 := by decide +kernel
abbrev b_Mo_writes : ByteArray := prog_13_method_52_code
def y_Mo_writes : MethodName := ⟨R_Mo, "writes", "(I)I"⟩
theorem hd_Mo_writes : y_Mo_writes.cls ≠ "java/lang/invoke/MethodHandle" ∧ y_Mo_writes.cls ≠ "java/lang/invoke/VarHandle" ∧ (parseMethodDescriptor y_Mo_writes.desc).map (fun d => d.parameters.length) = some 1 := by decide +kernel
abbrev b_Mo_apart : ByteArray := prog_13_method_53_code
def y_Mo_apart : MethodName := ⟨R_Mo, "apart", "(I)I"⟩
theorem hd_Mo_apart : y_Mo_apart.cls ≠ "java/lang/invoke/MethodHandle" ∧ y_Mo_apart.cls ≠ "java/lang/invoke/VarHandle" ∧ (parseMethodDescriptor y_Mo_apart.desc).map (fun d => d.parameters.length) = some 1 := by decide +kernel
abbrev b_Mo_isAlike : ByteArray := prog_13_method_54_code
def y_Mo_isAlike : MethodName := ⟨R_Mo, "isAlike", "(III)Z"⟩
theorem hd_Mo_isAlike : y_Mo_isAlike.cls ≠ "java/lang/invoke/MethodHandle" ∧ y_Mo_isAlike.cls ≠ "java/lang/invoke/VarHandle" ∧ (parseMethodDescriptor y_Mo_isAlike.desc).map (fun d => d.parameters.length) = some 3 := by decide +kernel
abbrev b_Mo_lacks : ByteArray := prog_13_method_55_code
def y_Mo_lacks : MethodName := ⟨R_Mo, "lacks", "(I)Z"⟩
theorem hd_Mo_lacks : y_Mo_lacks.cls ≠ "java/lang/invoke/MethodHandle" ∧ y_Mo_lacks.cls ≠ "java/lang/invoke/VarHandle" ∧ (parseMethodDescriptor y_Mo_lacks.desc).map (fun d => d.parameters.length) = some 1 := by decide +kernel
abbrev b_Mo_order : ByteArray := prog_13_method_56_code
def y_Mo_order : MethodName := ⟨R_Mo, "order", "(II)I"⟩
theorem hd_Mo_order : y_Mo_order.cls ≠ "java/lang/invoke/MethodHandle" ∧ y_Mo_order.cls ≠ "java/lang/invoke/VarHandle" ∧ (parseMethodDescriptor y_Mo_order.desc).map (fun d => d.parameters.length) = some 2 := by decide +kernel
abbrev b_Mo_signAt : ByteArray := prog_13_method_57_code
def y_Mo_signAt : MethodName := ⟨R_Mo, "signAt", "(II)I"⟩
theorem hd_Mo_signAt : y_Mo_signAt.cls ≠ "java/lang/invoke/MethodHandle" ∧ y_Mo_signAt.cls ≠ "java/lang/invoke/VarHandle" ∧ (parseMethodDescriptor y_Mo_signAt.desc).map (fun d => d.parameters.length) = some 2 := by decide +kernel
abbrev b_Mo_common : ByteArray := prog_13_method_58_code
def y_Mo_common : MethodName := ⟨R_Mo, "common", "()I"⟩
theorem hd_Mo_common : y_Mo_common.cls ≠ "java/lang/invoke/MethodHandle" ∧ y_Mo_common.cls ≠ "java/lang/invoke/VarHandle" ∧ (parseMethodDescriptor y_Mo_common.desc).map (fun d => d.parameters.length) = some 0 := by decide +kernel
abbrev b_Mo_out : ByteArray := prog_13_method_59_code
def y_Mo_out : MethodName := ⟨R_Mo, "out", "(I)J"⟩
theorem hd_Mo_out : y_Mo_out.cls ≠ "java/lang/invoke/MethodHandle" ∧ y_Mo_out.cls ≠ "java/lang/invoke/VarHandle" ∧ (parseMethodDescriptor y_Mo_out.desc).map (fun d => d.parameters.length) = some 1 := by decide +kernel
abbrev b_La_put : ByteArray := method_3_code
def y_La_put : MethodName := ⟨R_La, "put", "(LSturmDesk;III)I"⟩
theorem hd_La_put : y_La_put.cls ≠ "java/lang/invoke/MethodHandle" ∧ y_La_put.cls ≠ "java/lang/invoke/VarHandle" ∧ (parseMethodDescriptor y_La_put.desc).map (fun d => d.parameters.length) = some 4 := by decide +kernel
abbrev b_La_degree : ByteArray := method_4_code
def y_La_degree : MethodName := ⟨R_La, "degree", "(LSturmDesk;I[J)I"⟩
theorem hd_La_degree : y_La_degree.cls ≠ "java/lang/invoke/MethodHandle" ∧ y_La_degree.cls ≠ "java/lang/invoke/VarHandle" ∧ (parseMethodDescriptor y_La_degree.desc).map (fun d => d.parameters.length) = some 3 := by decide +kernel
abbrev b_La_roots : ByteArray := method_5_code
def y_La_roots : MethodName := ⟨R_La, "roots", "(LSturmDesk;I[J)I"⟩
theorem hd_La_roots : y_La_roots.cls ≠ "java/lang/invoke/MethodHandle" ∧ y_La_roots.cls ≠ "java/lang/invoke/VarHandle" ∧ (parseMethodDescriptor y_La_roots.desc).map (fun d => d.parameters.length) = some 3 := by decide +kernel
abbrev b_La_repeated : ByteArray := method_6_code
def y_La_repeated : MethodName := ⟨R_La, "repeated", "(LSturmDesk;I[J)I"⟩
theorem hd_La_repeated : y_La_repeated.cls ≠ "java/lang/invoke/MethodHandle" ∧ y_La_repeated.cls ≠ "java/lang/invoke/VarHandle" ∧ (parseMethodDescriptor y_La_repeated.desc).map (fun d => d.parameters.length) = some 3 := by decide +kernel
abbrev b_La_sign : ByteArray := method_7_code
def y_La_sign : MethodName := ⟨R_La, "sign", "(LSturmDesk;IJI[J)I"⟩
theorem hd_La_sign : y_La_sign.cls ≠ "java/lang/invoke/MethodHandle" ∧ y_La_sign.cls ≠ "java/lang/invoke/VarHandle" ∧ (parseMethodDescriptor y_La_sign.desc).map (fun d => d.parameters.length) = some 5 := by decide +kernel
abbrev b_La_between : ByteArray := method_8_code
def y_La_between : MethodName := ⟨R_La, "between", "(LSturmDesk;IJIJI[J)I"⟩
theorem hd_La_between : y_La_between.cls ≠ "java/lang/invoke/MethodHandle" ∧ y_La_between.cls ≠ "java/lang/invoke/VarHandle" ∧ (parseMethodDescriptor y_La_between.desc).map (fun d => d.parameters.length) = some 7 := by decide +kernel
abbrev b_La_multiple : ByteArray := method_9_code
def y_La_multiple : MethodName := ⟨R_La, "multiple", "(LSturmDesk;II[J)I"⟩
theorem hd_La_multiple : y_La_multiple.cls ≠ "java/lang/invoke/MethodHandle" ∧ y_La_multiple.cls ≠ "java/lang/invoke/VarHandle" ∧ (parseMethodDescriptor y_La_multiple.desc).map (fun d => d.parameters.length) = some 4 := by decide +kernel
abbrev b_La_side : ByteArray := method_10_code
def y_La_side : MethodName := ⟨R_La, "side", "(LSturmDesk;IIJI[J)I"⟩
theorem hd_La_side : y_La_side.cls ≠ "java/lang/invoke/MethodHandle" ∧ y_La_side.cls ≠ "java/lang/invoke/VarHandle" ∧ (parseMethodDescriptor y_La_side.desc).map (fun d => d.parameters.length) = some 6 := by decide +kernel
abbrev b_La_floor : ByteArray := method_11_code
def y_La_floor : MethodName := ⟨R_La, "floor", "(LSturmDesk;IIZI[J)I"⟩
theorem hd_La_floor : y_La_floor.cls ≠ "java/lang/invoke/MethodHandle" ∧ y_La_floor.cls ≠ "java/lang/invoke/VarHandle" ∧ (parseMethodDescriptor y_La_floor.desc).map (fun d => d.parameters.length) = some 6 := by decide +kernel
abbrev b_La_apart : ByteArray := method_12_code
def y_La_apart : MethodName := ⟨R_La, "apart", "(LSturmDesk;I[J)I"⟩
theorem hd_La_apart : y_La_apart.cls ≠ "java/lang/invoke/MethodHandle" ∧ y_La_apart.cls ≠ "java/lang/invoke/VarHandle" ∧ (parseMethodDescriptor y_La_apart.desc).map (fun d => d.parameters.length) = some 3 := by decide +kernel
abbrev b_La_order : ByteArray := method_13_code
def y_La_order : MethodName := ⟨R_La, "order", "(LSturmDesk;II[J)I"⟩
theorem hd_La_order : y_La_order.cls ≠ "java/lang/invoke/MethodHandle" ∧ y_La_order.cls ≠ "java/lang/invoke/VarHandle" ∧ (parseMethodDescriptor y_La_order.desc).map (fun d => d.parameters.length) = some 4 := by decide +kernel
abbrev b_La_signAt : ByteArray := method_14_code
def y_La_signAt : MethodName := ⟨R_La, "signAt", "(LSturmDesk;II[J)I"⟩
theorem hd_La_signAt : y_La_signAt.cls ≠ "java/lang/invoke/MethodHandle" ∧ y_La_signAt.cls ≠ "java/lang/invoke/VarHandle" ∧ (parseMethodDescriptor y_La_signAt.desc).map (fun d => d.parameters.length) = some 4 := by decide +kernel
abbrev b_La_common : ByteArray := method_15_code
def y_La_common : MethodName := ⟨R_La, "common", "(LSturmDesk;[J)I"⟩
theorem hd_La_common : y_La_common.cls ≠ "java/lang/invoke/MethodHandle" ∧ y_La_common.cls ≠ "java/lang/invoke/VarHandle" ∧ (parseMethodDescriptor y_La_common.desc).map (fun d => d.parameters.length) = some 2 := by decide +kernel
abbrev b_La_out : ByteArray := method_16_code
def y_La_out : MethodName := ⟨R_La, "out", "(LSturmDesk;I[J)I"⟩
theorem hd_La_out : y_La_out.cls ≠ "java/lang/invoke/MethodHandle" ∧ y_La_out.cls ≠ "java/lang/invoke/VarHandle" ∧ (parseMethodDescriptor y_La_out.desc).map (fun d => d.parameters.length) = some 3 := by decide +kernel
def y_La_law : MethodName := ⟨R_La, "law", "([I)Z"⟩
theorem w_ini_La : Cond.initialized R_La ∈ lw_G := lw_g1 0 rfl rfl
theorem w_ini_D : Cond.initialized R_D ∈ lw_G := lw_g1 1 rfl rfl
theorem w_ini_He : Cond.initialized R_He ∈ lw_G := lw_g1 2 rfl rfl
theorem w_ini_Py : Cond.initialized R_Py ∈ lw_G := lw_g1 3 rfl rfl
theorem w_ini_Nu : Cond.initialized R_Nu ∈ lw_G := lw_g1 4 rfl rfl
theorem w_ini_Ch : Cond.initialized R_Ch ∈ lw_G := lw_g1 5 rfl rfl
theorem w_ini_Ro : Cond.initialized R_Ro ∈ lw_G := lw_g1 6 rfl rfl
theorem w_ini_Be : Cond.initialized R_Be ∈ lw_G := lw_g1 7 rfl rfl
theorem w_ini_Pt : Cond.initialized R_Pt ∈ lw_G := lw_g1 8 rfl rfl
theorem w_ini_Di : Cond.initialized R_Di ∈ lw_G := lw_g1 9 rfl rfl
theorem w_ini_Qu : Cond.initialized R_Qu ∈ lw_G := lw_g1 10 rfl rfl
theorem w_ini_Tx : Cond.initialized R_Tx ∈ lw_G := lw_g1 11 rfl rfl
theorem w_ini_Mo : Cond.initialized R_Mo ∈ lw_G := lw_g1 12 rfl rfl
theorem w_cl_La_8 : Cond.classLink R_La 8 R_D ∈ lw_G := lw_g1 31 rfl rfl
theorem w_ins_D : Cond.instantiable R_D 4 ∈ lw_G := lw_g1 32 rfl rfl
theorem w_ml_La_66 : Cond.methodLink R_La 66 y_D_init ∈ lw_G := lw_g1 33 rfl rfl
theorem w_im_D_init : Cond.instanceMethod y_D_init ∈ lw_G := lw_g1 34 rfl rfl
theorem w_cd_D_init : Cond.code y_D_init b_D_init 2 none ∈ lw_G := lw_g1 35 rfl rfl
theorem w_ml_D_1 : Cond.methodLink R_D 1 objectInit ∈ lw_G := lw_g1 36 rfl rfl
theorem w_im_obj : Cond.instanceMethod objectInit ∈ lw_G := lw_g1 37 rfl rfl
theorem w_cd_obj : Cond.code objectInit ⟨#[0xb1]⟩ 1 none ∈ lw_G := lw_g1 38 rfl rfl
theorem w_cl_D_9 : Cond.classLink R_D 9 R_He ∈ lw_G := lw_g1 39 rfl rfl
theorem w_ao_He : Cond.arrayOver (.object R_He) ∈ lw_tbl := lw_t1 40 rfl
theorem w_ins_He : Cond.instantiable R_He 9 ∈ lw_G := lw_g1 41 rfl rfl
theorem w_ml_D_15 : Cond.methodLink R_D 15 y_He_init ∈ lw_G := lw_g1 42 rfl rfl
theorem w_im_He_init : Cond.instanceMethod y_He_init ∈ lw_G := lw_g1 43 rfl rfl
theorem w_cd_He_init : Cond.code y_He_init b_He_init 2 none ∈ lw_G := lw_g1 44 rfl rfl
theorem w_ml_He_3 : Cond.methodLink R_He 3 objectInit ∈ lw_G := lw_g1 45 rfl rfl
theorem w_cl_He_15 : Cond.classLink R_He 15 R_Py ∈ lw_G := lw_g1 46 rfl rfl
theorem w_ins_Py : Cond.instantiable R_Py 2 ∈ lw_G := lw_g1 47 rfl rfl
theorem w_ml_He_17 : Cond.methodLink R_He 17 y_Py_init ∈ lw_G := lw_g1 48 rfl rfl
theorem w_im_Py_init : Cond.instanceMethod y_Py_init ∈ lw_G := lw_g1 49 rfl rfl
theorem w_cd_Py_init : Cond.code y_Py_init b_Py_init 4 none ∈ lw_G := lw_g1 50 rfl rfl
theorem w_ml_Py_1 : Cond.methodLink R_Py 1 objectInit ∈ lw_G := lw_g1 51 rfl rfl
theorem w_cl_Py_7 : Cond.classLink R_Py 7 R_Nu ∈ lw_G := lw_g1 52 rfl rfl
theorem w_ao_Nu : Cond.arrayOver (.object R_Nu) ∈ lw_tbl := lw_t1 53 rfl
theorem w_ins_Nu : Cond.instantiable R_Nu 3 ∈ lw_G := lw_g1 54 rfl rfl
theorem w_ml_Py_15 : Cond.methodLink R_Py 15 y_Nu_init ∈ lw_G := lw_g1 55 rfl rfl
theorem w_im_Nu_init : Cond.instanceMethod y_Nu_init ∈ lw_G := lw_g1 56 rfl rfl
theorem w_cd_Nu_init : Cond.code y_Nu_init b_Nu_init 2 none ∈ lw_G := lw_g1 57 rfl rfl
theorem w_ml_Nu_1 : Cond.methodLink R_Nu 1 objectInit ∈ lw_G := lw_g1 58 rfl rfl
theorem w_fl_Nu_9 : Cond.fieldLink R_Nu 9 "SturmDesk$Num" "limb" "[I" ∈ lw_G := lw_g1 59 rfl rfl
theorem w_fl_Di_42 : Cond.fieldLink R_Di 42 "SturmDesk$Num" "limb" "[I" ∈ lw_G := lw_g1 60 rfl rfl
theorem w_fl_Nu_13 : Cond.fieldLink R_Nu 13 "SturmDesk$Num" "len" "I" ∈ lw_G := lw_g1 61 rfl rfl
theorem w_fl_Di_30 : Cond.fieldLink R_Di 30 "SturmDesk$Num" "len" "I" ∈ lw_G := lw_g1 62 rfl rfl
theorem w_fl_Nu_17 : Cond.fieldLink R_Nu 17 "SturmDesk$Num" "sgn" "I" ∈ lw_G := lw_g1 63 rfl rfl
theorem w_fl_Tx_29 : Cond.fieldLink R_Tx 29 "SturmDesk$Num" "sgn" "I" ∈ lw_G := lw_g1 64 rfl rfl
theorem w_fl_Qu_57 : Cond.fieldLink R_Qu 57 "SturmDesk$Num" "sgn" "I" ∈ lw_G := lw_g1 65 rfl rfl
theorem w_fl_Di_50 : Cond.fieldLink R_Di 50 "SturmDesk$Num" "sgn" "I" ∈ lw_G := lw_g1 66 rfl rfl
theorem w_fl_Py_36 : Cond.fieldLink R_Py 36 "SturmDesk$Num" "sgn" "I" ∈ lw_G := lw_g1 67 rfl rfl
theorem w_fl_Be_118 : Cond.fieldLink R_Be 118 "SturmDesk$Num" "sgn" "I" ∈ lw_G := lw_g1 68 rfl rfl
theorem w_fl_He_124 : Cond.fieldLink R_He 124 "SturmDesk$Num" "sgn" "I" ∈ lw_G := lw_g1 69 rfl rfl
theorem w_fl_Ch_72 : Cond.fieldLink R_Ch 72 "SturmDesk$Num" "sgn" "I" ∈ lw_G := lw_g1 70 rfl rfl
theorem w_fl_D_93 : Cond.fieldLink R_D 93 "SturmDesk$Num" "sgn" "I" ∈ lw_G := lw_g1 71 rfl rfl
theorem w_ac_int : Cond.arrayClass .int ∈ lw_G := lw_g1 79 rfl rfl
theorem w_fl_Py_9 : Cond.fieldLink R_Py 9 "SturmDesk$Poly" "c" "[LSturmDesk$Num;" ∈ lw_G := lw_g1 80 rfl rfl
theorem w_fl_He_40 : Cond.fieldLink R_He 40 "SturmDesk$Poly" "c" "[LSturmDesk$Num;" ∈ lw_G := lw_g1 81 rfl rfl
theorem w_fl_Be_95 : Cond.fieldLink R_Be 95 "SturmDesk$Poly" "c" "[LSturmDesk$Num;" ∈ lw_G := lw_g1 82 rfl rfl
theorem w_fl_Qu_88 : Cond.fieldLink R_Qu 88 "SturmDesk$Poly" "c" "[LSturmDesk$Num;" ∈ lw_G := lw_g1 83 rfl rfl
theorem w_fl_Ch_65 : Cond.fieldLink R_Ch 65 "SturmDesk$Poly" "c" "[LSturmDesk$Num;" ∈ lw_G := lw_g1 84 rfl rfl
theorem w_fl_Py_18 : Cond.fieldLink R_Py 18 "SturmDesk$Poly" "deg" "I" ∈ lw_G := lw_g1 85 rfl rfl
theorem w_fl_Qu_29 : Cond.fieldLink R_Qu 29 "SturmDesk$Poly" "deg" "I" ∈ lw_G := lw_g1 86 rfl rfl
theorem w_fl_Be_84 : Cond.fieldLink R_Be 84 "SturmDesk$Poly" "deg" "I" ∈ lw_G := lw_g1 87 rfl rfl
theorem w_fl_D_56 : Cond.fieldLink R_D 56 "SturmDesk$Poly" "deg" "I" ∈ lw_G := lw_g1 88 rfl rfl
theorem w_fl_He_76 : Cond.fieldLink R_He 76 "SturmDesk$Poly" "deg" "I" ∈ lw_G := lw_g1 89 rfl rfl
theorem w_fl_Ch_35 : Cond.fieldLink R_Ch 35 "SturmDesk$Poly" "deg" "I" ∈ lw_G := lw_g1 90 rfl rfl
theorem w_cl_He_24 : Cond.classLink R_He 24 R_Ch ∈ lw_G := lw_g1 96 rfl rfl
theorem w_ins_Ch : Cond.instantiable R_Ch 3 ∈ lw_G := lw_g1 97 rfl rfl
theorem w_ml_He_26 : Cond.methodLink R_He 26 y_Ch_init ∈ lw_G := lw_g1 98 rfl rfl
theorem w_im_Ch_init : Cond.instanceMethod y_Ch_init ∈ lw_G := lw_g1 99 rfl rfl
theorem w_cd_Ch_init : Cond.code y_Ch_init b_Ch_init 3 none ∈ lw_G := lw_g1 100 rfl rfl
theorem w_ml_Ch_1 : Cond.methodLink R_Ch 1 objectInit ∈ lw_G := lw_g1 101 rfl rfl
theorem w_cl_Ch_9 : Cond.classLink R_Ch 9 R_Py ∈ lw_G := lw_g1 102 rfl rfl
theorem w_ao_Py : Cond.arrayOver (.object R_Py) ∈ lw_tbl := lw_t1 103 rfl
theorem w_ml_Ch_15 : Cond.methodLink R_Ch 15 y_Py_init ∈ lw_G := lw_g1 104 rfl rfl
theorem w_fl_Ch_11 : Cond.fieldLink R_Ch 11 "SturmDesk$Chain" "link" "[LSturmDesk$Poly;" ∈ lw_G := lw_g1 105 rfl rfl
theorem w_fl_Qu_65 : Cond.fieldLink R_Qu 65 "SturmDesk$Chain" "link" "[LSturmDesk$Poly;" ∈ lw_G := lw_g1 106 rfl rfl
theorem w_fl_He_57 : Cond.fieldLink R_He 57 "SturmDesk$Chain" "link" "[LSturmDesk$Poly;" ∈ lw_G := lw_g1 107 rfl rfl
theorem w_fl_Ch_18 : Cond.fieldLink R_Ch 18 "SturmDesk$Chain" "length" "I" ∈ lw_G := lw_g1 108 rfl rfl
theorem w_fl_He_137 : Cond.fieldLink R_He 137 "SturmDesk$Chain" "headSign" "I" ∈ lw_G := lw_g1 109 rfl rfl
theorem w_fl_Ch_125 : Cond.fieldLink R_Ch 125 "SturmDesk$Chain" "headSign" "I" ∈ lw_G := lw_g1 110 rfl rfl
theorem w_cl_He_33 : Cond.classLink R_He 33 R_Ro ∈ lw_G := lw_g1 118 rfl rfl
theorem w_ao_Ro : Cond.arrayOver (.object R_Ro) ∈ lw_tbl := lw_t1 119 rfl
theorem w_ins_Ro : Cond.instantiable R_Ro 5 ∈ lw_G := lw_g1 120 rfl rfl
theorem w_ml_He_39 : Cond.methodLink R_He 39 y_Ro_init ∈ lw_G := lw_g1 121 rfl rfl
theorem w_im_Ro_init : Cond.instanceMethod y_Ro_init ∈ lw_G := lw_g1 122 rfl rfl
theorem w_cd_Ro_init : Cond.code y_Ro_init b_Ro_init 1 none ∈ lw_G := lw_g1 123 rfl rfl
theorem w_ml_Ro_1 : Cond.methodLink R_Ro 1 objectInit ∈ lw_G := lw_g1 124 rfl rfl
theorem w_cl_Ro_7 : Cond.classLink R_Ro 7 R_Nu ∈ lw_G := lw_g1 125 rfl rfl
theorem w_ml_Ro_9 : Cond.methodLink R_Ro 9 y_Nu_init ∈ lw_G := lw_g1 126 rfl rfl
theorem w_fl_Ro_12 : Cond.fieldLink R_Ro 12 "SturmDesk$Root" "at" "LSturmDesk$Num;" ∈ lw_G := lw_g1 127 rfl rfl
theorem w_fl_He_150 : Cond.fieldLink R_He 150 "SturmDesk$Root" "at" "LSturmDesk$Num;" ∈ lw_G := lw_g1 128 rfl rfl
theorem w_fl_Ro_18 : Cond.fieldLink R_Ro 18 "SturmDesk$Root" "level" "I" ∈ lw_G := lw_g1 129 rfl rfl
theorem w_fl_He_156 : Cond.fieldLink R_He 156 "SturmDesk$Root" "level" "I" ∈ lw_G := lw_g1 130 rfl rfl
theorem w_fl_Qu_140 : Cond.fieldLink R_Qu 140 "SturmDesk$Root" "lowSign" "I" ∈ lw_G := lw_g1 131 rfl rfl
theorem w_fl_He_174 : Cond.fieldLink R_He 174 "SturmDesk$Root" "lowSign" "I" ∈ lw_G := lw_g1 132 rfl rfl
theorem w_fl_He_115 : Cond.fieldLink R_He 115 "SturmDesk$Root" "found" "Z" ∈ lw_G := lw_g1 133 rfl rfl
theorem w_fl_Qu_49 : Cond.fieldLink R_Qu 49 "SturmDesk$Root" "exact" "Z" ∈ lw_G := lw_g1 134 rfl rfl
theorem w_fl_He_177 : Cond.fieldLink R_He 177 "SturmDesk$Root" "exact" "Z" ∈ lw_G := lw_g1 135 rfl rfl
theorem w_fl_He_9 : Cond.fieldLink R_He 9 "SturmDesk$Held" "given" "[I" ∈ lw_G := lw_g1 147 rfl rfl
theorem w_fl_He_20 : Cond.fieldLink R_He 20 "SturmDesk$Held" "source" "LSturmDesk$Poly;" ∈ lw_G := lw_g1 148 rfl rfl
theorem w_fl_D_52 : Cond.fieldLink R_D 52 "SturmDesk$Held" "source" "LSturmDesk$Poly;" ∈ lw_G := lw_g1 149 rfl rfl
theorem w_fl_Qu_119 : Cond.fieldLink R_Qu 119 "SturmDesk$Held" "source" "LSturmDesk$Poly;" ∈ lw_G := lw_g1 150 rfl rfl
theorem w_fl_He_29 : Cond.fieldLink R_He 29 "SturmDesk$Held" "chain" "LSturmDesk$Chain;" ∈ lw_G := lw_g1 151 rfl rfl
theorem w_fl_Qu_62 : Cond.fieldLink R_Qu 62 "SturmDesk$Held" "chain" "LSturmDesk$Chain;" ∈ lw_G := lw_g1 152 rfl rfl
theorem w_fl_He_35 : Cond.fieldLink R_He 35 "SturmDesk$Held" "root" "[LSturmDesk$Root;" ∈ lw_G := lw_g1 153 rfl rfl
theorem w_fl_Qu_132 : Cond.fieldLink R_Qu 132 "SturmDesk$Held" "root" "[LSturmDesk$Root;" ∈ lw_G := lw_g1 154 rfl rfl
theorem w_fl_D_116 : Cond.fieldLink R_D 116 "SturmDesk$Held" "root" "[LSturmDesk$Root;" ∈ lw_G := lw_g1 155 rfl rfl
theorem w_fl_He_53 : Cond.fieldLink R_He 53 "SturmDesk$Held" "ready" "Z" ∈ lw_G := lw_g1 156 rfl rfl
theorem w_fl_He_112 : Cond.fieldLink R_He 112 "SturmDesk$Held" "count" "I" ∈ lw_G := lw_g1 157 rfl rfl
theorem w_fl_D_70 : Cond.fieldLink R_D 70 "SturmDesk$Held" "count" "I" ∈ lw_G := lw_g1 158 rfl rfl
theorem w_fl_He_86 : Cond.fieldLink R_He 86 "SturmDesk$Held" "shared" "I" ∈ lw_G := lw_g1 159 rfl rfl
theorem w_fl_Qu_122 : Cond.fieldLink R_Qu 122 "SturmDesk$Held" "shared" "I" ∈ lw_G := lw_g1 160 rfl rfl
theorem w_fl_D_73 : Cond.fieldLink R_D 73 "SturmDesk$Held" "shared" "I" ∈ lw_G := lw_g1 161 rfl rfl
theorem w_fl_He_102 : Cond.fieldLink R_He 102 "SturmDesk$Held" "start" "I" ∈ lw_G := lw_g1 162 rfl rfl
theorem w_fl_He_121 : Cond.fieldLink R_He 121 "SturmDesk$Held" "reach" "I" ∈ lw_G := lw_g1 163 rfl rfl
theorem w_cl_D_16 : Cond.classLink R_D 16 R_Be ∈ lw_G := lw_g1 183 rfl rfl
theorem w_ins_Be : Cond.instantiable R_Be 16 ∈ lw_G := lw_g1 184 rfl rfl
theorem w_ml_D_18 : Cond.methodLink R_D 18 y_Be_init ∈ lw_G := lw_g1 185 rfl rfl
theorem w_im_Be_init : Cond.instanceMethod y_Be_init ∈ lw_G := lw_g1 186 rfl rfl
theorem w_cd_Be_init : Cond.code y_Be_init b_Be_init 1 none ∈ lw_G := lw_g1 187 rfl rfl
theorem w_ml_Be_3 : Cond.methodLink R_Be 3 objectInit ∈ lw_G := lw_g1 188 rfl rfl
theorem w_cl_Be_9 : Cond.classLink R_Be 9 R_Nu ∈ lw_G := lw_g1 189 rfl rfl
theorem w_ml_Be_11 : Cond.methodLink R_Be 11 y_Nu_init ∈ lw_G := lw_g1 190 rfl rfl
theorem w_cl_Be_53 : Cond.classLink R_Be 53 R_Pt ∈ lw_G := lw_g1 191 rfl rfl
theorem w_ins_Pt : Cond.instantiable R_Pt 2 ∈ lw_G := lw_g1 192 rfl rfl
theorem w_ml_Be_55 : Cond.methodLink R_Be 55 y_Pt_init ∈ lw_G := lw_g1 193 rfl rfl
theorem w_im_Pt_init : Cond.instanceMethod y_Pt_init ∈ lw_G := lw_g1 194 rfl rfl
theorem w_cd_Pt_init : Cond.code y_Pt_init b_Pt_init 1 none ∈ lw_G := lw_g1 195 rfl rfl
theorem w_ml_Pt_1 : Cond.methodLink R_Pt 1 objectInit ∈ lw_G := lw_g1 196 rfl rfl
theorem w_cl_Pt_7 : Cond.classLink R_Pt 7 R_Nu ∈ lw_G := lw_g1 197 rfl rfl
theorem w_ml_Pt_9 : Cond.methodLink R_Pt 9 y_Nu_init ∈ lw_G := lw_g1 198 rfl rfl
theorem w_fl_Pt_12 : Cond.fieldLink R_Pt 12 "SturmDesk$Point" "over" "LSturmDesk$Num;" ∈ lw_G := lw_g1 199 rfl rfl
theorem w_fl_Be_88 : Cond.fieldLink R_Be 88 "SturmDesk$Point" "over" "LSturmDesk$Num;" ∈ lw_G := lw_g1 200 rfl rfl
theorem w_fl_Pt_22 : Cond.fieldLink R_Pt 22 "SturmDesk$Point" "exp" "I" ∈ lw_G := lw_g1 201 rfl rfl
theorem w_fl_Be_103 : Cond.fieldLink R_Be 103 "SturmDesk$Point" "exp" "I" ∈ lw_G := lw_g1 202 rfl rfl
theorem w_cl_Be_60 : Cond.classLink R_Be 60 R_Di ∈ lw_G := lw_g1 208 rfl rfl
theorem w_ins_Di : Cond.instantiable R_Di 4 ∈ lw_G := lw_g1 209 rfl rfl
theorem w_ml_Be_62 : Cond.methodLink R_Be 62 y_Di_init ∈ lw_G := lw_g1 210 rfl rfl
theorem w_im_Di_init : Cond.instanceMethod y_Di_init ∈ lw_G := lw_g1 211 rfl rfl
theorem w_cd_Di_init : Cond.code y_Di_init b_Di_init 1 none ∈ lw_G := lw_g1 212 rfl rfl
theorem w_ml_Di_1 : Cond.methodLink R_Di 1 objectInit ∈ lw_G := lw_g1 213 rfl rfl
theorem w_cl_Di_7 : Cond.classLink R_Di 7 R_Nu ∈ lw_G := lw_g1 214 rfl rfl
theorem w_ml_Di_9 : Cond.methodLink R_Di 9 y_Nu_init ∈ lw_G := lw_g1 215 rfl rfl
theorem w_fl_Di_12 : Cond.fieldLink R_Di 12 "SturmDesk$Divider" "quotient" "LSturmDesk$Num;" ∈ lw_G := lw_g1 216 rfl rfl
theorem w_fl_Be_130 : Cond.fieldLink R_Be 130 "SturmDesk$Divider" "quotient" "LSturmDesk$Num;" ∈ lw_G := lw_g1 217 rfl rfl
theorem w_fl_Ch_118 : Cond.fieldLink R_Ch 118 "SturmDesk$Divider" "quotient" "LSturmDesk$Num;" ∈ lw_G := lw_g1 218 rfl rfl
theorem w_fl_He_232 : Cond.fieldLink R_He 232 "SturmDesk$Divider" "quotient" "LSturmDesk$Num;" ∈ lw_G := lw_g1 219 rfl rfl
theorem w_fl_Di_18 : Cond.fieldLink R_Di 18 "SturmDesk$Divider" "rest" "LSturmDesk$Num;" ∈ lw_G := lw_g1 220 rfl rfl
theorem w_fl_Di_21 : Cond.fieldLink R_Di 21 "SturmDesk$Divider" "moved" "LSturmDesk$Num;" ∈ lw_G := lw_g1 221 rfl rfl
theorem w_fl_Di_24 : Cond.fieldLink R_Di 24 "SturmDesk$Divider" "spare" "LSturmDesk$Num;" ∈ lw_G := lw_g1 222 rfl rfl
theorem w_cl_Be_67 : Cond.classLink R_Be 67 R_Py ∈ lw_G := lw_g1 232 rfl rfl
theorem w_ml_Be_71 : Cond.methodLink R_Be 71 y_Py_init ∈ lw_G := lw_g1 233 rfl rfl
theorem w_fl_Be_14 : Cond.fieldLink R_Be 14 "SturmDesk$Bench" "one" "LSturmDesk$Num;" ∈ lw_G := lw_g1 234 rfl rfl
theorem w_fl_Be_20 : Cond.fieldLink R_Be 20 "SturmDesk$Bench" "two" "LSturmDesk$Num;" ∈ lw_G := lw_g1 235 rfl rfl
theorem w_fl_Be_23 : Cond.fieldLink R_Be 23 "SturmDesk$Bench" "term" "LSturmDesk$Num;" ∈ lw_G := lw_g1 236 rfl rfl
theorem w_fl_Qu_104 : Cond.fieldLink R_Qu 104 "SturmDesk$Bench" "term" "LSturmDesk$Num;" ∈ lw_G := lw_g1 237 rfl rfl
theorem w_fl_Ch_86 : Cond.fieldLink R_Ch 86 "SturmDesk$Bench" "term" "LSturmDesk$Num;" ∈ lw_G := lw_g1 238 rfl rfl
theorem w_fl_Be_26 : Cond.fieldLink R_Be 26 "SturmDesk$Bench" "power" "LSturmDesk$Num;" ∈ lw_G := lw_g1 239 rfl rfl
theorem w_fl_Be_29 : Cond.fieldLink R_Be 29 "SturmDesk$Bench" "lower" "LSturmDesk$Num;" ∈ lw_G := lw_g2 0 rfl rfl
theorem w_fl_Ch_83 : Cond.fieldLink R_Ch 83 "SturmDesk$Bench" "lower" "LSturmDesk$Num;" ∈ lw_G := lw_g2 1 rfl rfl
theorem w_fl_He_205 : Cond.fieldLink R_He 205 "SturmDesk$Bench" "lower" "LSturmDesk$Num;" ∈ lw_G := lw_g2 2 rfl rfl
theorem w_fl_Be_32 : Cond.fieldLink R_Be 32 "SturmDesk$Bench" "upper" "LSturmDesk$Num;" ∈ lw_G := lw_g2 3 rfl rfl
theorem w_fl_Ch_93 : Cond.fieldLink R_Ch 93 "SturmDesk$Bench" "upper" "LSturmDesk$Num;" ∈ lw_G := lw_g2 4 rfl rfl
theorem w_fl_He_210 : Cond.fieldLink R_He 210 "SturmDesk$Bench" "upper" "LSturmDesk$Num;" ∈ lw_G := lw_g2 5 rfl rfl
theorem w_fl_Be_35 : Cond.fieldLink R_Be 35 "SturmDesk$Bench" "guess" "LSturmDesk$Num;" ∈ lw_G := lw_g2 6 rfl rfl
theorem w_fl_He_192 : Cond.fieldLink R_He 192 "SturmDesk$Bench" "guess" "LSturmDesk$Num;" ∈ lw_G := lw_g2 7 rfl rfl
theorem w_fl_Be_38 : Cond.fieldLink R_Be 38 "SturmDesk$Bench" "tens" "LSturmDesk$Num;" ∈ lw_G := lw_g2 8 rfl rfl
theorem w_fl_He_241 : Cond.fieldLink R_He 241 "SturmDesk$Bench" "tens" "LSturmDesk$Num;" ∈ lw_G := lw_g2 9 rfl rfl
theorem w_fl_Be_41 : Cond.fieldLink R_Be 41 "SturmDesk$Bench" "scale" "LSturmDesk$Num;" ∈ lw_G := lw_g2 10 rfl rfl
theorem w_fl_Ch_38 : Cond.fieldLink R_Ch 38 "SturmDesk$Bench" "scale" "LSturmDesk$Num;" ∈ lw_G := lw_g2 11 rfl rfl
theorem w_fl_Be_44 : Cond.fieldLink R_Be 44 "SturmDesk$Bench" "height" "LSturmDesk$Num;" ∈ lw_G := lw_g2 12 rfl rfl
theorem w_fl_Ch_50 : Cond.fieldLink R_Ch 50 "SturmDesk$Bench" "height" "LSturmDesk$Num;" ∈ lw_G := lw_g2 13 rfl rfl
theorem w_fl_Be_47 : Cond.fieldLink R_Be 47 "SturmDesk$Bench" "share" "LSturmDesk$Num;" ∈ lw_G := lw_g2 14 rfl rfl
theorem w_fl_Ch_103 : Cond.fieldLink R_Ch 103 "SturmDesk$Bench" "share" "LSturmDesk$Num;" ∈ lw_G := lw_g2 15 rfl rfl
theorem w_fl_Be_50 : Cond.fieldLink R_Be 50 "SturmDesk$Bench" "spare" "LSturmDesk$Num;" ∈ lw_G := lw_g2 16 rfl rfl
theorem w_fl_Ch_106 : Cond.fieldLink R_Ch 106 "SturmDesk$Bench" "spare" "LSturmDesk$Num;" ∈ lw_G := lw_g2 17 rfl rfl
theorem w_fl_Be_56 : Cond.fieldLink R_Be 56 "SturmDesk$Bench" "point" "LSturmDesk$Point;" ∈ lw_G := lw_g2 18 rfl rfl
theorem w_fl_Qu_37 : Cond.fieldLink R_Qu 37 "SturmDesk$Bench" "point" "LSturmDesk$Point;" ∈ lw_G := lw_g2 19 rfl rfl
theorem w_fl_D_79 : Cond.fieldLink R_D 79 "SturmDesk$Bench" "point" "LSturmDesk$Point;" ∈ lw_G := lw_g2 20 rfl rfl
theorem w_fl_He_140 : Cond.fieldLink R_He 140 "SturmDesk$Bench" "point" "LSturmDesk$Point;" ∈ lw_G := lw_g2 21 rfl rfl
theorem w_fl_Be_63 : Cond.fieldLink R_Be 63 "SturmDesk$Bench" "divider" "LSturmDesk$Divider;" ∈ lw_G := lw_g2 22 rfl rfl
theorem w_fl_Ch_109 : Cond.fieldLink R_Ch 109 "SturmDesk$Bench" "divider" "LSturmDesk$Divider;" ∈ lw_G := lw_g2 23 rfl rfl
theorem w_fl_He_222 : Cond.fieldLink R_He 222 "SturmDesk$Bench" "divider" "LSturmDesk$Divider;" ∈ lw_G := lw_g2 24 rfl rfl
theorem w_fl_Be_74 : Cond.fieldLink R_Be 74 "SturmDesk$Bench" "rest" "LSturmDesk$Poly;" ∈ lw_G := lw_g2 25 rfl rfl
theorem w_fl_Ch_57 : Cond.fieldLink R_Ch 57 "SturmDesk$Bench" "rest" "LSturmDesk$Poly;" ∈ lw_G := lw_g2 26 rfl rfl
theorem w_fl_Be_78 : Cond.fieldLink R_Be 78 "SturmDesk$Bench" "divisor" "LSturmDesk$Poly;" ∈ lw_G := lw_g2 27 rfl rfl
theorem w_fl_Qu_150 : Cond.fieldLink R_Qu 150 "SturmDesk$Bench" "divisor" "LSturmDesk$Poly;" ∈ lw_G := lw_g2 28 rfl rfl
theorem w_cl_D_23 : Cond.classLink R_D 23 R_Qu ∈ lw_G := lw_g2 62 rfl rfl
theorem w_ins_Qu : Cond.instantiable R_Qu 2 ∈ lw_G := lw_g2 63 rfl rfl
theorem w_ml_D_25 : Cond.methodLink R_D 25 y_Qu_init ∈ lw_G := lw_g2 64 rfl rfl
theorem w_im_Qu_init : Cond.instanceMethod y_Qu_init ∈ lw_G := lw_g2 65 rfl rfl
theorem w_cd_Qu_init : Cond.code y_Qu_init b_Qu_init 1 none ∈ lw_G := lw_g2 66 rfl rfl
theorem w_ml_Qu_3 : Cond.methodLink R_Qu 3 objectInit ∈ lw_G := lw_g2 67 rfl rfl
theorem w_cl_Qu_9 : Cond.classLink R_Qu 9 R_Ch ∈ lw_G := lw_g2 68 rfl rfl
theorem w_ml_Qu_11 : Cond.methodLink R_Qu 11 y_Ch_init ∈ lw_G := lw_g2 69 rfl rfl
theorem w_cl_Qu_20 : Cond.classLink R_Qu 20 R_Py ∈ lw_G := lw_g2 70 rfl rfl
theorem w_ml_Qu_22 : Cond.methodLink R_Qu 22 y_Py_init ∈ lw_G := lw_g2 71 rfl rfl
theorem w_fl_Qu_14 : Cond.fieldLink R_Qu 14 "SturmDesk$Query" "chain" "LSturmDesk$Chain;" ∈ lw_G := lw_g2 72 rfl rfl
theorem w_fl_Qu_25 : Cond.fieldLink R_Qu 25 "SturmDesk$Query" "trial" "LSturmDesk$Poly;" ∈ lw_G := lw_g2 73 rfl rfl
theorem w_cl_D_30 : Cond.classLink R_D 30 R_Tx ∈ lw_G := lw_g2 79 rfl rfl
theorem w_ins_Tx : Cond.instantiable R_Tx 4 ∈ lw_G := lw_g2 80 rfl rfl
theorem w_ml_D_32 : Cond.methodLink R_D 32 y_Tx_init ∈ lw_G := lw_g2 81 rfl rfl
theorem w_im_Tx_init : Cond.instanceMethod y_Tx_init ∈ lw_G := lw_g2 82 rfl rfl
theorem w_cd_Tx_init : Cond.code y_Tx_init b_Tx_init 1 none ∈ lw_G := lw_g2 83 rfl rfl
theorem w_ml_Tx_1 : Cond.methodLink R_Tx 1 objectInit ∈ lw_G := lw_g2 84 rfl rfl
theorem w_cl_Tx_16 : Cond.classLink R_Tx 16 R_Nu ∈ lw_G := lw_g2 85 rfl rfl
theorem w_ml_Tx_18 : Cond.methodLink R_Tx 18 y_Nu_init ∈ lw_G := lw_g2 86 rfl rfl
theorem w_fl_Tx_9 : Cond.fieldLink R_Tx 9 "SturmDesk$Text" "bytes" "[B" ∈ lw_G := lw_g2 87 rfl rfl
theorem w_fl_Tx_13 : Cond.fieldLink R_Tx 13 "SturmDesk$Text" "turned" "[B" ∈ lw_G := lw_g2 88 rfl rfl
theorem w_fl_Tx_21 : Cond.fieldLink R_Tx 21 "SturmDesk$Text" "left" "LSturmDesk$Num;" ∈ lw_G := lw_g2 89 rfl rfl
theorem w_fl_Tx_38 : Cond.fieldLink R_Tx 38 "SturmDesk$Text" "length" "I" ∈ lw_G := lw_g2 90 rfl rfl
theorem w_fl_D_161 : Cond.fieldLink R_D 161 "SturmDesk$Text" "length" "I" ∈ lw_G := lw_g2 91 rfl rfl
theorem w_ac_byte : Cond.arrayClass .byte ∈ lw_G := lw_g2 101 rfl rfl
theorem w_fl_D_11 : Cond.fieldLink R_D 11 "SturmDesk" "desk" "[LSturmDesk$Held;" ∈ lw_G := lw_g2 102 rfl rfl
theorem w_fl_D_19 : Cond.fieldLink R_D 19 "SturmDesk" "bench" "LSturmDesk$Bench;" ∈ lw_G := lw_g2 103 rfl rfl
theorem w_fl_D_26 : Cond.fieldLink R_D 26 "SturmDesk" "query" "LSturmDesk$Query;" ∈ lw_G := lw_g2 104 rfl rfl
theorem w_fl_D_33 : Cond.fieldLink R_D 33 "SturmDesk" "text" "LSturmDesk$Text;" ∈ lw_G := lw_g2 105 rfl rfl
theorem w_ml_La_70 : Cond.methodLink R_La 70 y_La_put ∈ lw_G := lw_g2 115 rfl rfl
theorem w_st_La_put : Cond.static y_La_put ∈ lw_G := lw_g2 116 rfl rfl
theorem w_cd_La_put : Cond.codeWith y_La_put b_La_put 5 (some .int) [(0, 7, 10, 13)] ∈ lw_G := lw_g2 117 rfl rfl
theorem w_cl_La_13 : Cond.classLink R_La 13 "java/lang/IllegalArgumentException" ∈ lw_G := lw_g2 118 rfl rfl
theorem w_ml_La_7 : Cond.methodLink R_La 7 y_D_put ∈ lw_G := lw_g2 119 rfl rfl
theorem w_im_D_put : Cond.instanceMethod y_D_put ∈ lw_G := lw_g2 120 rfl rfl
theorem w_se_D_put : Cond.selects R_D y_D_put y_D_put ∈ lw_G := lw_g2 121 rfl rfl
theorem w_cd_D_put : Cond.code y_D_put b_D_put 4 none ∈ lw_G := lw_g2 122 rfl rfl
theorem w_ml_D_37 : Cond.methodLink R_D 37 y_D_checkPolynomial ∈ lw_G := lw_g2 123 rfl rfl
theorem w_im_D_checkPolynomial : Cond.instanceMethod y_D_checkPolynomial ∈ lw_G := lw_g2 125 rfl rfl
theorem w_cd_D_checkPolynomial : Cond.code y_D_checkPolynomial b_D_checkPolynomial 2 none ∈ lw_G := lw_g2 126 rfl rfl
theorem w_cl_D_41 : Cond.classLink R_D 41 "java/lang/IllegalArgumentException" ∈ lw_G := lw_g2 127 rfl rfl
theorem w_sr_D_173 : Cond.stringRef R_D 173 "no such polynomial" ∈ lw_tbl := lw_t2 168 rfl
theorem w_ml_D_45 : Cond.methodLink R_D 45 ⟨"java/lang/IllegalArgumentException", "<init>", "(Ljava/lang/String;)V"⟩ ∈ lw_G := lw_g2 169 rfl rfl
theorem w_sr_D_43 : Cond.stringRef R_D 43 "no such coefficient" ∈ lw_tbl := lw_t2 194 rfl
theorem w_ml_D_48 : Cond.methodLink R_D 48 y_He_change ∈ lw_G := lw_g2 195 rfl rfl
theorem w_im_He_change : Cond.instanceMethod y_He_change ∈ lw_G := lw_g2 196 rfl rfl
theorem w_se_He_change : Cond.selects R_He y_He_change y_He_change ∈ lw_G := lw_g2 197 rfl rfl
theorem w_cd_He_change : Cond.code y_He_change b_He_change 3 none ∈ lw_G := lw_g2 198 rfl rfl
theorem w_ml_He_44 : Cond.methodLink R_He 44 y_Nu_setLong ∈ lw_G := lw_g2 199 rfl rfl
theorem w_im_Nu_setLong : Cond.instanceMethod y_Nu_setLong ∈ lw_G := lw_g2 200 rfl rfl
theorem w_se_Nu_setLong : Cond.selects R_Nu y_Nu_setLong y_Nu_setLong ∈ lw_G := lw_g2 201 rfl rfl
theorem w_cd_Nu_setLong : Cond.code y_Nu_setLong b_Nu_setLong 6 none ∈ lw_G := lw_g2 202 rfl rfl
theorem w_kl_Nu_26 : Cond.constantLong R_Nu 26 (2147483647 : Int64) ∈ lw_G := lw_g2 203 rfl rfl
theorem w_ml_Nu_28 : Cond.methodLink R_Nu 28 ⟨"java/lang/Long", "signum", "(J)I"⟩ ∈ lw_G := lw_g2 204 rfl rfl
theorem w_ml_He_50 : Cond.methodLink R_He 50 y_Py_lower ∈ lw_G := lw_g2 207 rfl rfl
theorem w_im_Py_lower : Cond.instanceMethod y_Py_lower ∈ lw_G := lw_g2 208 rfl rfl
theorem w_se_Py_lower : Cond.selects R_Py y_Py_lower y_Py_lower ∈ lw_G := lw_g2 209 rfl rfl
theorem w_cd_Py_lower : Cond.code y_Py_lower b_Py_lower 2 none ∈ lw_G := lw_g2 210 rfl rfl
theorem w_ml_Py_22 : Cond.methodLink R_Py 22 ⟨"java/lang/Math", "min", "(II)I"⟩ ∈ lw_G := lw_g2 211 rfl rfl
theorem w_ml_La_79 : Cond.methodLink R_La 79 y_La_degree ∈ lw_G := lw_g2 214 rfl rfl
theorem w_st_La_degree : Cond.static y_La_degree ∈ lw_G := lw_g2 215 rfl rfl
theorem w_cd_La_degree : Cond.codeWith y_La_degree b_La_degree 4 (some .int) [(0, 9, 12, 13)] ∈ lw_G := lw_g2 216 rfl rfl
theorem w_ml_La_15 : Cond.methodLink R_La 15 y_D_degree ∈ lw_G := lw_g2 217 rfl rfl
theorem w_im_D_degree : Cond.instanceMethod y_D_degree ∈ lw_G := lw_g2 218 rfl rfl
theorem w_se_D_degree : Cond.selects R_D y_D_degree y_D_degree ∈ lw_G := lw_g2 219 rfl rfl
theorem w_cd_D_degree : Cond.code y_D_degree b_D_degree 2 (some .int) ∈ lw_G := lw_g2 220 rfl rfl
theorem w_ml_La_83 : Cond.methodLink R_La 83 y_La_roots ∈ lw_G := lw_g2 221 rfl rfl
theorem w_st_La_roots : Cond.static y_La_roots ∈ lw_G := lw_g2 222 rfl rfl
theorem w_cd_La_roots : Cond.codeWith y_La_roots b_La_roots 4 (some .int) [(0, 9, 12, 13), (0, 9, 15, 22)] ∈ lw_G := lw_g2 223 rfl rfl
theorem w_cl_La_22 : Cond.classLink R_La 22 "java/lang/IllegalStateException" ∈ lw_G := lw_g2 224 rfl rfl
theorem w_ml_La_19 : Cond.methodLink R_La 19 y_D_roots ∈ lw_G := lw_g2 225 rfl rfl
theorem w_im_D_roots : Cond.instanceMethod y_D_roots ∈ lw_G := lw_g2 226 rfl rfl
theorem w_se_D_roots : Cond.selects R_D y_D_roots y_D_roots ∈ lw_G := lw_g2 227 rfl rfl
theorem w_cd_D_roots : Cond.code y_D_roots b_D_roots 3 (some .int) ∈ lw_G := lw_g2 228 rfl rfl
theorem w_ml_D_62 : Cond.methodLink R_D 62 y_D_some ∈ lw_G := lw_g2 229 rfl rfl
theorem w_im_D_some : Cond.instanceMethod y_D_some ∈ lw_G := lw_g2 231 rfl rfl
theorem w_cd_D_some : Cond.code y_D_some b_D_some 3 (some (.object "SturmDesk$Held")) ∈ lw_G := lw_g2 232 rfl rfl
theorem w_cl_D_177 : Cond.classLink R_D 177 "java/lang/IllegalStateException" ∈ lw_G := lw_g2 233 rfl rfl
theorem w_sr_D_179 : Cond.stringRef R_D 179 "the polynomial is none" ∈ lw_tbl := lw_t3 2 rfl
theorem w_ml_D_181 : Cond.methodLink R_D 181 ⟨"java/lang/IllegalStateException", "<init>", "(Ljava/lang/String;)V"⟩ ∈ lw_G := lw_g3 3 rfl rfl
theorem w_ml_D_66 : Cond.methodLink R_D 66 y_He_prepare ∈ lw_G := lw_g3 9 rfl rfl
theorem w_im_He_prepare : Cond.instanceMethod y_He_prepare ∈ lw_G := lw_g3 10 rfl rfl
theorem w_se_He_prepare : Cond.selects R_He y_He_prepare y_He_prepare ∈ lw_G := lw_g3 11 rfl rfl
theorem w_cd_He_prepare : Cond.code y_He_prepare b_He_prepare 3 none ∈ lw_G := lw_g3 12 rfl rfl
theorem w_ml_He_61 : Cond.methodLink R_He 61 y_Py_copy ∈ lw_G := lw_g3 13 rfl rfl
theorem w_im_Py_copy : Cond.instanceMethod y_Py_copy ∈ lw_G := lw_g3 14 rfl rfl
theorem w_se_Py_copy : Cond.selects R_Py y_Py_copy y_Py_copy ∈ lw_G := lw_g3 15 rfl rfl
theorem w_cd_Py_copy : Cond.code y_Py_copy b_Py_copy 3 none ∈ lw_G := lw_g3 16 rfl rfl
theorem w_ml_Py_28 : Cond.methodLink R_Py 28 y_Nu_copy ∈ lw_G := lw_g3 17 rfl rfl
theorem w_im_Nu_copy : Cond.instanceMethod y_Nu_copy ∈ lw_G := lw_g3 18 rfl rfl
theorem w_se_Nu_copy : Cond.selects R_Nu y_Nu_copy y_Nu_copy ∈ lw_G := lw_g3 19 rfl rfl
theorem w_cd_Nu_copy : Cond.code y_Nu_copy b_Nu_copy 2 none ∈ lw_G := lw_g3 20 rfl rfl
theorem w_ml_Nu_20 : Cond.methodLink R_Nu 20 ⟨"java/lang/System", "arraycopy", "(Ljava/lang/Object;ILjava/lang/Object;II)V"⟩ ∈ lw_G := lw_g3 21 rfl rfl
theorem w_ml_Py_32 : Cond.methodLink R_Py 32 y_Py_lower ∈ lw_G := lw_g3 24 rfl rfl
theorem w_ml_He_65 : Cond.methodLink R_He 65 y_Ch_deriveHead ∈ lw_G := lw_g3 25 rfl rfl
theorem w_im_Ch_deriveHead : Cond.instanceMethod y_Ch_deriveHead ∈ lw_G := lw_g3 26 rfl rfl
theorem w_se_Ch_deriveHead : Cond.selects R_Ch y_Ch_deriveHead y_Ch_deriveHead ∈ lw_G := lw_g3 27 rfl rfl
theorem w_cd_Ch_deriveHead : Cond.code y_Ch_deriveHead b_Ch_deriveHead 1 none ∈ lw_G := lw_g3 28 rfl rfl
theorem w_ml_Ch_28 : Cond.methodLink R_Ch 28 y_Py_copy ∈ lw_G := lw_g3 29 rfl rfl
theorem w_ml_Ch_32 : Cond.methodLink R_Ch 32 y_Py_derive ∈ lw_G := lw_g3 30 rfl rfl
theorem w_im_Py_derive : Cond.instanceMethod y_Py_derive ∈ lw_G := lw_g3 31 rfl rfl
theorem w_se_Py_derive : Cond.selects R_Py y_Py_derive y_Py_derive ∈ lw_G := lw_g3 32 rfl rfl
theorem w_cd_Py_derive : Cond.code y_Py_derive b_Py_derive 2 none ∈ lw_G := lw_g3 33 rfl rfl
theorem w_ml_Py_39 : Cond.methodLink R_Py 39 y_Nu_times ∈ lw_G := lw_g3 34 rfl rfl
theorem w_im_Nu_times : Cond.instanceMethod y_Nu_times ∈ lw_G := lw_g3 35 rfl rfl
theorem w_se_Nu_times : Cond.selects R_Nu y_Nu_times y_Nu_times ∈ lw_G := lw_g3 36 rfl rfl
theorem w_cd_Nu_times : Cond.code y_Nu_times b_Nu_times 7 none ∈ lw_G := lw_g3 37 rfl rfl
theorem w_ml_Nu_51 : Cond.methodLink R_Nu 51 y_Nu_clear ∈ lw_G := lw_g3 38 rfl rfl
theorem w_im_Nu_clear : Cond.instanceMethod y_Nu_clear ∈ lw_G := lw_g3 39 rfl rfl
theorem w_se_Nu_clear : Cond.selects R_Nu y_Nu_clear y_Nu_clear ∈ lw_G := lw_g3 40 rfl rfl
theorem w_cd_Nu_clear : Cond.code y_Nu_clear b_Nu_clear 1 none ∈ lw_G := lw_g3 41 rfl rfl
theorem w_ml_Nu_64 : Cond.methodLink R_Nu 64 y_Nu_trim ∈ lw_G := lw_g3 42 rfl rfl
theorem w_im_Nu_trim : Cond.instanceMethod y_Nu_trim ∈ lw_G := lw_g3 43 rfl rfl
theorem w_se_Nu_trim : Cond.selects R_Nu y_Nu_trim y_Nu_trim ∈ lw_G := lw_g3 44 rfl rfl
theorem w_cd_Nu_trim : Cond.code y_Nu_trim b_Nu_trim 1 none ∈ lw_G := lw_g3 45 rfl rfl
theorem w_ml_He_68 : Cond.methodLink R_He 68 y_Ch_build ∈ lw_G := lw_g3 46 rfl rfl
theorem w_im_Ch_build : Cond.instanceMethod y_Ch_build ∈ lw_G := lw_g3 47 rfl rfl
theorem w_se_Ch_build : Cond.selects R_Ch y_Ch_build y_Ch_build ∈ lw_G := lw_g3 48 rfl rfl
theorem w_cd_Ch_build : Cond.code y_Ch_build b_Ch_build 5 none ∈ lw_G := lw_g3 49 rfl rfl
theorem w_ml_Ch_44 : Cond.methodLink R_Ch 44 y_Nu_setLong ∈ lw_G := lw_g3 50 rfl rfl
theorem w_ml_Ch_53 : Cond.methodLink R_Ch 53 y_Ch_leaveRest ∈ lw_G := lw_g3 51 rfl rfl
theorem w_im_Ch_leaveRest : Cond.instanceMethod y_Ch_leaveRest ∈ lw_G := lw_g3 53 rfl rfl
theorem w_cd_Ch_leaveRest : Cond.code y_Ch_leaveRest b_Ch_leaveRest 9 none ∈ lw_G := lw_g3 54 rfl rfl
theorem w_ml_Ch_69 : Cond.methodLink R_Ch 69 y_Nu_copy ∈ lw_G := lw_g3 55 rfl rfl
theorem w_ml_Ch_89 : Cond.methodLink R_Ch 89 y_Nu_setProduct ∈ lw_G := lw_g3 56 rfl rfl
theorem w_im_Nu_setProduct : Cond.instanceMethod y_Nu_setProduct ∈ lw_G := lw_g3 57 rfl rfl
theorem w_se_Nu_setProduct : Cond.selects R_Nu y_Nu_setProduct y_Nu_setProduct ∈ lw_G := lw_g3 58 rfl rfl
theorem w_cd_Nu_setProduct : Cond.code y_Nu_setProduct b_Nu_setProduct 11 none ∈ lw_G := lw_g3 59 rfl rfl
theorem w_ml_Nu_83 : Cond.methodLink R_Nu 83 ⟨"java/util/Arrays", "fill", "([IIII)V"⟩ ∈ lw_G := lw_g3 60 rfl rfl
theorem w_ml_Ch_96 : Cond.methodLink R_Ch 96 y_Nu_add ∈ lw_G := lw_g4 64 rfl rfl
theorem w_im_Nu_add : Cond.instanceMethod y_Nu_add ∈ lw_G := lw_g4 65 rfl rfl
theorem w_se_Nu_add : Cond.selects R_Nu y_Nu_add y_Nu_add ∈ lw_G := lw_g4 66 rfl rfl
theorem w_cd_Nu_add : Cond.code y_Nu_add b_Nu_add 5 none ∈ lw_G := lw_g4 67 rfl rfl
theorem w_ml_Nu_44 : Cond.methodLink R_Nu 44 y_Nu_copy ∈ lw_G := lw_g4 68 rfl rfl
theorem w_ml_Nu_48 : Cond.methodLink R_Nu 48 y_Nu_addMagnitude ∈ lw_G := lw_g4 69 rfl rfl
theorem w_im_Nu_addMagnitude : Cond.instanceMethod y_Nu_addMagnitude ∈ lw_G := lw_g4 71 rfl rfl
theorem w_cd_Nu_addMagnitude : Cond.code y_Nu_addMagnitude b_Nu_addMagnitude 7 none ∈ lw_G := lw_g4 72 rfl rfl
theorem w_ml_Nu_58 : Cond.methodLink R_Nu 58 ⟨"java/lang/Math", "max", "(II)I"⟩ ∈ lw_G := lw_g4 73 rfl rfl
theorem w_ml_Nu_40 : Cond.methodLink R_Nu 40 y_Nu_compareMagnitude ∈ lw_G := lw_g4 74 rfl rfl
theorem w_im_Nu_compareMagnitude : Cond.instanceMethod y_Nu_compareMagnitude ∈ lw_G := lw_g4 75 rfl rfl
theorem w_se_Nu_compareMagnitude : Cond.selects R_Nu y_Nu_compareMagnitude y_Nu_compareMagnitude ∈ lw_G := lw_g4 76 rfl rfl
theorem w_cd_Nu_compareMagnitude : Cond.code y_Nu_compareMagnitude b_Nu_compareMagnitude 3 (some .int) ∈ lw_G := lw_g4 77 rfl rfl
theorem w_ml_Nu_54 : Cond.methodLink R_Nu 54 y_Nu_subtractMagnitude ∈ lw_G := lw_g4 78 rfl rfl
theorem w_im_Nu_subtractMagnitude : Cond.instanceMethod y_Nu_subtractMagnitude ∈ lw_G := lw_g4 80 rfl rfl
theorem w_cd_Nu_subtractMagnitude : Cond.code y_Nu_subtractMagnitude b_Nu_subtractMagnitude 10 none ∈ lw_G := lw_g4 81 rfl rfl
theorem w_ml_Ch_100 : Cond.methodLink R_Ch 100 y_Py_lower ∈ lw_G := lw_g4 82 rfl rfl
theorem w_ml_Ch_61 : Cond.methodLink R_Ch 61 y_Ch_keepRest ∈ lw_G := lw_g4 83 rfl rfl
theorem w_im_Ch_keepRest : Cond.instanceMethod y_Ch_keepRest ∈ lw_G := lw_g4 85 rfl rfl
theorem w_cd_Ch_keepRest : Cond.code y_Ch_keepRest b_Ch_keepRest 5 none ∈ lw_G := lw_g4 86 rfl rfl
theorem w_ml_Ch_113 : Cond.methodLink R_Ch 113 y_Di_divide ∈ lw_G := lw_g4 87 rfl rfl
theorem w_im_Di_divide : Cond.instanceMethod y_Di_divide ∈ lw_G := lw_g4 88 rfl rfl
theorem w_se_Di_divide : Cond.selects R_Di y_Di_divide y_Di_divide ∈ lw_G := lw_g4 89 rfl rfl
theorem w_cd_Di_divide : Cond.code y_Di_divide b_Di_divide 6 none ∈ lw_G := lw_g4 90 rfl rfl
theorem w_ml_Di_27 : Cond.methodLink R_Di 27 y_Nu_clear ∈ lw_G := lw_g4 91 rfl rfl
theorem w_ml_Di_34 : Cond.methodLink R_Di 34 y_Nu_copy ∈ lw_G := lw_g4 92 rfl rfl
theorem w_ml_Di_38 : Cond.methodLink R_Di 38 y_Nu_compareMagnitude ∈ lw_G := lw_g4 93 rfl rfl
theorem w_ml_Di_46 : Cond.methodLink R_Di 46 y_Nu_divideSmall ∈ lw_G := lw_g4 94 rfl rfl
theorem w_im_Nu_divideSmall : Cond.instanceMethod y_Nu_divideSmall ∈ lw_G := lw_g4 95 rfl rfl
theorem w_se_Nu_divideSmall : Cond.selects R_Nu y_Nu_divideSmall y_Nu_divideSmall ∈ lw_G := lw_g4 96 rfl rfl
theorem w_cd_Nu_divideSmall : Cond.code y_Nu_divideSmall b_Nu_divideSmall 7 (some .int) ∈ lw_G := lw_g4 97 rfl rfl
theorem w_ml_Di_53 : Cond.methodLink R_Di 53 y_Nu_setLong ∈ lw_G := lw_g4 98 rfl rfl
theorem w_ml_Di_57 : Cond.methodLink R_Di 57 y_Nu_bitLength ∈ lw_G := lw_g4 99 rfl rfl
theorem w_im_Nu_bitLength : Cond.instanceMethod y_Nu_bitLength ∈ lw_G := lw_g4 100 rfl rfl
theorem w_se_Nu_bitLength : Cond.selects R_Nu y_Nu_bitLength y_Nu_bitLength ∈ lw_G := lw_g4 101 rfl rfl
theorem w_cd_Nu_bitLength : Cond.code y_Nu_bitLength b_Nu_bitLength 1 (some .int) ∈ lw_G := lw_g4 102 rfl rfl
theorem w_ml_Nu_34 : Cond.methodLink R_Nu 34 ⟨"java/lang/Integer", "numberOfLeadingZeros", "(I)I"⟩ ∈ lw_G := lw_g4 103 rfl rfl
theorem w_ml_Di_61 : Cond.methodLink R_Di 61 y_Nu_shiftUp ∈ lw_G := lw_g4 107 rfl rfl
theorem w_im_Nu_shiftUp : Cond.instanceMethod y_Nu_shiftUp ∈ lw_G := lw_g4 108 rfl rfl
theorem w_se_Nu_shiftUp : Cond.selects R_Nu y_Nu_shiftUp y_Nu_shiftUp ∈ lw_G := lw_g4 109 rfl rfl
theorem w_cd_Nu_shiftUp : Cond.code y_Nu_shiftUp b_Nu_shiftUp 7 none ∈ lw_G := lw_g4 110 rfl rfl
theorem w_ml_Di_65 : Cond.methodLink R_Di 65 y_Di_takeDigit ∈ lw_G := lw_g4 111 rfl rfl
theorem w_im_Di_takeDigit : Cond.instanceMethod y_Di_takeDigit ∈ lw_G := lw_g4 113 rfl rfl
theorem w_cd_Di_takeDigit : Cond.code y_Di_takeDigit b_Di_takeDigit 15 (some .int) ∈ lw_G := lw_g4 114 rfl rfl
theorem w_kl_Di_75 : Cond.constantLong R_Di 75 (2147483647 : Int64) ∈ lw_G := lw_g4 115 rfl rfl
theorem w_ml_Di_77 : Cond.methodLink R_Di 77 y_Di_subtractDigit ∈ lw_G := lw_g4 116 rfl rfl
theorem w_im_Di_subtractDigit : Cond.instanceMethod y_Di_subtractDigit ∈ lw_G := lw_g4 118 rfl rfl
theorem w_cd_Di_subtractDigit : Cond.code y_Di_subtractDigit b_Di_subtractDigit 12 (some .boolean) ∈ lw_G := lw_g4 119 rfl rfl
theorem w_ml_Di_81 : Cond.methodLink R_Di 81 y_Di_addBack ∈ lw_G := lw_g4 120 rfl rfl
theorem w_im_Di_addBack : Cond.instanceMethod y_Di_addBack ∈ lw_G := lw_g4 122 rfl rfl
theorem w_cd_Di_addBack : Cond.code y_Di_addBack b_Di_addBack 8 none ∈ lw_G := lw_g4 123 rfl rfl
theorem w_ml_Di_68 : Cond.methodLink R_Di 68 y_Nu_trim ∈ lw_G := lw_g4 124 rfl rfl
theorem w_ml_Di_71 : Cond.methodLink R_Di 71 y_Nu_shiftDown ∈ lw_G := lw_g4 125 rfl rfl
theorem w_im_Nu_shiftDown : Cond.instanceMethod y_Nu_shiftDown ∈ lw_G := lw_g4 126 rfl rfl
theorem w_se_Nu_shiftDown : Cond.selects R_Nu y_Nu_shiftDown y_Nu_shiftDown ∈ lw_G := lw_g4 127 rfl rfl
theorem w_cd_Nu_shiftDown : Cond.code y_Nu_shiftDown b_Nu_shiftDown 10 (some .boolean) ∈ lw_G := lw_g4 128 rfl rfl
theorem w_ml_Nu_89 : Cond.methodLink R_Nu 89 ⟨"java/lang/Math", "min", "(II)I"⟩ ∈ lw_G := lw_g4 129 rfl rfl
theorem w_ml_Ch_75 : Cond.methodLink R_Ch 75 ⟨"java/lang/Math", "abs", "(I)I"⟩ ∈ lw_G := lw_g4 130 rfl rfl
theorem w_ml_Ch_79 : Cond.methodLink R_Ch 79 y_Ch_raiseHeight ∈ lw_G := lw_g4 133 rfl rfl
theorem w_im_Ch_raiseHeight : Cond.instanceMethod y_Ch_raiseHeight ∈ lw_G := lw_g4 135 rfl rfl
theorem w_cd_Ch_raiseHeight : Cond.code y_Ch_raiseHeight b_Ch_raiseHeight 4 none ∈ lw_G := lw_g4 136 rfl rfl
theorem w_ml_He_72 : Cond.methodLink R_He 72 y_Ch_last ∈ lw_G := lw_g4 137 rfl rfl
theorem w_im_Ch_last : Cond.instanceMethod y_Ch_last ∈ lw_G := lw_g4 138 rfl rfl
theorem w_se_Ch_last : Cond.selects R_Ch y_Ch_last y_Ch_last ∈ lw_G := lw_g4 139 rfl rfl
theorem w_cd_Ch_last : Cond.code y_Ch_last b_Ch_last 1 (some (.object "SturmDesk$Poly")) ∈ lw_G := lw_g4 140 rfl rfl
theorem w_ml_Ch_22 : Cond.methodLink R_Ch 22 ⟨"java/lang/Math", "max", "(II)I"⟩ ∈ lw_G := lw_g4 141 rfl rfl
theorem w_ml_He_80 : Cond.methodLink R_He 80 ⟨"java/lang/Math", "max", "(II)I"⟩ ∈ lw_G := lw_g4 142 rfl rfl
theorem w_ml_He_89 : Cond.methodLink R_He 89 y_Be_setDivisor ∈ lw_G := lw_g4 143 rfl rfl
theorem w_im_Be_setDivisor : Cond.instanceMethod y_Be_setDivisor ∈ lw_G := lw_g4 144 rfl rfl
theorem w_se_Be_setDivisor : Cond.selects R_Be y_Be_setDivisor y_Be_setDivisor ∈ lw_G := lw_g4 145 rfl rfl
theorem w_cd_Be_setDivisor : Cond.code y_Be_setDivisor b_Be_setDivisor 3 none ∈ lw_G := lw_g4 146 rfl rfl
theorem w_ml_Be_121 : Cond.methodLink R_Be 121 y_Py_copy ∈ lw_G := lw_g4 147 rfl rfl
theorem w_ml_Be_81 : Cond.methodLink R_Be 81 y_Nu_clear ∈ lw_G := lw_g4 148 rfl rfl
theorem w_ml_Be_124 : Cond.methodLink R_Be 124 y_Di_reduceToCommon ∈ lw_G := lw_g4 149 rfl rfl
theorem w_im_Di_reduceToCommon : Cond.instanceMethod y_Di_reduceToCommon ∈ lw_G := lw_g4 150 rfl rfl
theorem w_se_Di_reduceToCommon : Cond.selects R_Di y_Di_reduceToCommon y_Di_reduceToCommon ∈ lw_G := lw_g4 151 rfl rfl
theorem w_cd_Di_reduceToCommon : Cond.code y_Di_reduceToCommon b_Di_reduceToCommon 4 none ∈ lw_G := lw_g4 152 rfl rfl
theorem w_k_Di_84 : Cond.constant R_Di 84 (100000 : Int32) ∈ lw_G := lw_g4 153 rfl rfl
theorem w_ml_Di_85 : Cond.methodLink R_Di 85 y_Di_divide ∈ lw_G := lw_g4 154 rfl rfl
theorem w_ml_Di_89 : Cond.methodLink R_Di 89 ⟨"java/lang/Math", "abs", "(I)I"⟩ ∈ lw_G := lw_g4 155 rfl rfl
theorem w_ml_Be_127 : Cond.methodLink R_Be 127 y_Di_divide ∈ lw_G := lw_g4 156 rfl rfl
theorem w_ml_Be_99 : Cond.methodLink R_Be 99 y_Nu_copy ∈ lw_G := lw_g4 157 rfl rfl
theorem w_ml_He_94 : Cond.methodLink R_He 94 y_Be_divideByDivisor ∈ lw_G := lw_g4 158 rfl rfl
theorem w_im_Be_divideByDivisor : Cond.instanceMethod y_Be_divideByDivisor ∈ lw_G := lw_g4 159 rfl rfl
theorem w_se_Be_divideByDivisor : Cond.selects R_Be y_Be_divideByDivisor y_Be_divideByDivisor ∈ lw_G := lw_g4 160 rfl rfl
theorem w_cd_Be_divideByDivisor : Cond.code y_Be_divideByDivisor b_Be_divideByDivisor 6 none ∈ lw_G := lw_g4 161 rfl rfl
theorem w_ml_Be_91 : Cond.methodLink R_Be 91 y_Nu_setProduct ∈ lw_G := lw_g4 162 rfl rfl
theorem w_ml_Be_110 : Cond.methodLink R_Be 110 y_Nu_add ∈ lw_G := lw_g4 163 rfl rfl
theorem w_ml_Be_133 : Cond.methodLink R_Be 133 y_Py_lower ∈ lw_G := lw_g4 164 rfl rfl
theorem w_ml_He_98 : Cond.methodLink R_He 98 y_Ch_changesFar ∈ lw_G := lw_g4 165 rfl rfl
theorem w_im_Ch_changesFar : Cond.instanceMethod y_Ch_changesFar ∈ lw_G := lw_g4 166 rfl rfl
theorem w_se_Ch_changesFar : Cond.selects R_Ch y_Ch_changesFar y_Ch_changesFar ∈ lw_G := lw_g4 167 rfl rfl
theorem w_cd_Ch_changesFar : Cond.code y_Ch_changesFar b_Ch_changesFar 6 (some .int) ∈ lw_G := lw_g4 168 rfl rfl
theorem w_ml_Ch_128 : Cond.methodLink R_Ch 128 y_Py_leadSign ∈ lw_G := lw_g4 169 rfl rfl
theorem w_im_Py_leadSign : Cond.instanceMethod y_Py_leadSign ∈ lw_G := lw_g4 170 rfl rfl
theorem w_se_Py_leadSign : Cond.selects R_Py y_Py_leadSign y_Py_leadSign ∈ lw_G := lw_g4 171 rfl rfl
theorem w_cd_Py_leadSign : Cond.code y_Py_leadSign b_Py_leadSign 1 (some .int) ∈ lw_G := lw_g4 172 rfl rfl
theorem w_ml_He_105 : Cond.methodLink R_He 105 y_Ch_realRoots ∈ lw_G := lw_g4 173 rfl rfl
theorem w_im_Ch_realRoots : Cond.instanceMethod y_Ch_realRoots ∈ lw_G := lw_g4 174 rfl rfl
theorem w_se_Ch_realRoots : Cond.selects R_Ch y_Ch_realRoots y_Ch_realRoots ∈ lw_G := lw_g4 175 rfl rfl
theorem w_cd_Ch_realRoots : Cond.code y_Ch_realRoots b_Ch_realRoots 1 (some .int) ∈ lw_G := lw_g4 176 rfl rfl
theorem w_ml_Ch_132 : Cond.methodLink R_Ch 132 y_Ch_changesFar ∈ lw_G := lw_g4 177 rfl rfl
theorem w_ml_He_109 : Cond.methodLink R_He 109 ⟨"java/lang/Math", "min", "(II)I"⟩ ∈ lw_G := lw_g4 178 rfl rfl
theorem w_ml_He_118 : Cond.methodLink R_He 118 y_He_reachOfRoots ∈ lw_G := lw_g4 179 rfl rfl
theorem w_im_He_reachOfRoots : Cond.instanceMethod y_He_reachOfRoots ∈ lw_G := lw_g4 181 rfl rfl
theorem w_cd_He_reachOfRoots : Cond.code y_He_reachOfRoots b_He_reachOfRoots 6 (some .int) ∈ lw_G := lw_g4 182 rfl rfl
theorem w_ml_He_127 : Cond.methodLink R_He 127 y_Nu_bitLength ∈ lw_G := lw_g4 183 rfl rfl
theorem w_ml_He_130 : Cond.methodLink R_He 130 ⟨"java/lang/Math", "floorDiv", "(II)I"⟩ ∈ lw_G := lw_g4 184 rfl rfl
theorem w_ml_La_86 : Cond.methodLink R_La 86 y_La_repeated ∈ lw_G := lw_g4 187 rfl rfl
theorem w_st_La_repeated : Cond.static y_La_repeated ∈ lw_G := lw_g4 188 rfl rfl
theorem w_cd_La_repeated : Cond.codeWith y_La_repeated b_La_repeated 4 (some .int) [(0, 9, 12, 13), (0, 9, 15, 22)] ∈ lw_G := lw_g4 189 rfl rfl
theorem w_ml_La_24 : Cond.methodLink R_La 24 y_D_repeated ∈ lw_G := lw_g4 190 rfl rfl
theorem w_im_D_repeated : Cond.instanceMethod y_D_repeated ∈ lw_G := lw_g4 191 rfl rfl
theorem w_se_D_repeated : Cond.selects R_D y_D_repeated y_D_repeated ∈ lw_G := lw_g4 192 rfl rfl
theorem w_cd_D_repeated : Cond.code y_D_repeated b_D_repeated 3 (some .int) ∈ lw_G := lw_g4 193 rfl rfl
theorem w_ml_La_91 : Cond.methodLink R_La 91 y_La_sign ∈ lw_G := lw_g4 194 rfl rfl
theorem w_st_La_sign : Cond.static y_La_sign ∈ lw_G := lw_g4 195 rfl rfl
theorem w_cd_La_sign : Cond.codeWith y_La_sign b_La_sign 7 (some .int) [(0, 13, 16, 13), (0, 13, 20, 22)] ∈ lw_G := lw_g4 196 rfl rfl
theorem w_ml_La_27 : Cond.methodLink R_La 27 y_D_sign ∈ lw_G := lw_g4 197 rfl rfl
theorem w_im_D_sign : Cond.instanceMethod y_D_sign ∈ lw_G := lw_g4 198 rfl rfl
theorem w_se_D_sign : Cond.selects R_D y_D_sign y_D_sign ∈ lw_G := lw_g4 199 rfl rfl
theorem w_cd_D_sign : Cond.code y_D_sign b_D_sign 6 (some .int) ∈ lw_G := lw_g4 200 rfl rfl
theorem w_ml_D_76 : Cond.methodLink R_D 76 y_D_checkExponent ∈ lw_G := lw_g4 201 rfl rfl
theorem w_im_D_checkExponent : Cond.instanceMethod y_D_checkExponent ∈ lw_G := lw_g4 203 rfl rfl
theorem w_cd_D_checkExponent : Cond.code y_D_checkExponent b_D_checkExponent 2 none ∈ lw_G := lw_g4 204 rfl rfl
theorem w_sr_D_175 : Cond.stringRef R_D 175 "no such point" ∈ lw_tbl := lw_t4 205 rfl
theorem w_ml_D_83 : Cond.methodLink R_D 83 y_Pt_placeLong ∈ lw_G := lw_g4 206 rfl rfl
theorem w_im_Pt_placeLong : Cond.instanceMethod y_Pt_placeLong ∈ lw_G := lw_g4 207 rfl rfl
theorem w_se_Pt_placeLong : Cond.selects R_Pt y_Pt_placeLong y_Pt_placeLong ∈ lw_G := lw_g4 208 rfl rfl
theorem w_cd_Pt_placeLong : Cond.code y_Pt_placeLong b_Pt_placeLong 4 none ∈ lw_G := lw_g4 209 rfl rfl
theorem w_ml_Pt_18 : Cond.methodLink R_Pt 18 y_Nu_setLong ∈ lw_G := lw_g4 210 rfl rfl
theorem w_ml_D_89 : Cond.methodLink R_D 89 y_Be_valueAt ∈ lw_G := lw_g4 211 rfl rfl
theorem w_im_Be_valueAt : Cond.instanceMethod y_Be_valueAt ∈ lw_G := lw_g4 212 rfl rfl
theorem w_se_Be_valueAt : Cond.selects R_Be y_Be_valueAt y_Be_valueAt ∈ lw_G := lw_g4 213 rfl rfl
theorem w_cd_Be_valueAt : Cond.code y_Be_valueAt b_Be_valueAt 7 (some (.object "SturmDesk$Num")) ∈ lw_G := lw_g4 214 rfl rfl
theorem w_ml_Be_106 : Cond.methodLink R_Be 106 y_Nu_shiftUp ∈ lw_G := lw_g4 215 rfl rfl
theorem w_ml_La_95 : Cond.methodLink R_La 95 y_La_between ∈ lw_G := lw_g4 216 rfl rfl
theorem w_st_La_between : Cond.static y_La_between ∈ lw_G := lw_g4 217 rfl rfl
theorem w_cd_La_between : Cond.codeWith y_La_between b_La_between 10 (some .int) [(0, 17, 20, 13), (0, 17, 24, 22)] ∈ lw_G := lw_g4 218 rfl rfl
theorem w_ml_La_31 : Cond.methodLink R_La 31 y_D_between ∈ lw_G := lw_g4 219 rfl rfl
theorem w_im_D_between : Cond.instanceMethod y_D_between ∈ lw_G := lw_g4 220 rfl rfl
theorem w_se_D_between : Cond.selects R_D y_D_between y_D_between ∈ lw_G := lw_g4 221 rfl rfl
theorem w_cd_D_between : Cond.code y_D_between b_D_between 11 (some .int) ∈ lw_G := lw_g4 222 rfl rfl
theorem w_ml_D_98 : Cond.methodLink R_D 98 y_He_countUpTo ∈ lw_G := lw_g4 223 rfl rfl
theorem w_im_He_countUpTo : Cond.instanceMethod y_He_countUpTo ∈ lw_G := lw_g4 224 rfl rfl
theorem w_se_He_countUpTo : Cond.selects R_He y_He_countUpTo y_He_countUpTo ∈ lw_G := lw_g4 225 rfl rfl
theorem w_cd_He_countUpTo : Cond.code y_He_countUpTo b_He_countUpTo 3 (some .int) ∈ lw_G := lw_g4 226 rfl rfl
theorem w_ml_He_133 : Cond.methodLink R_He 133 y_Ch_changesAt ∈ lw_G := lw_g4 227 rfl rfl
theorem w_im_Ch_changesAt : Cond.instanceMethod y_Ch_changesAt ∈ lw_G := lw_g4 228 rfl rfl
theorem w_se_Ch_changesAt : Cond.selects R_Ch y_Ch_changesAt y_Ch_changesAt ∈ lw_G := lw_g4 229 rfl rfl
theorem w_cd_Ch_changesAt : Cond.code y_Ch_changesAt b_Ch_changesAt 7 (some .int) ∈ lw_G := lw_g4 230 rfl rfl
theorem w_ml_Ch_121 : Cond.methodLink R_Ch 121 y_Be_valueAt ∈ lw_G := lw_g4 231 rfl rfl
theorem w_ml_D_102 : Cond.methodLink R_D 102 ⟨"java/lang/Math", "max", "(II)I"⟩ ∈ lw_G := lw_g4 232 rfl rfl
theorem w_ml_La_99 : Cond.methodLink R_La 99 y_La_multiple ∈ lw_G := lw_g4 233 rfl rfl
theorem w_st_La_multiple : Cond.static y_La_multiple ∈ lw_G := lw_g4 234 rfl rfl
theorem w_cd_La_multiple : Cond.codeWith y_La_multiple b_La_multiple 5 (some .int) [(0, 10, 13, 13), (0, 10, 17, 22), (0, 10, 21, 39)] ∈ lw_G := lw_g4 235 rfl rfl
theorem w_cl_La_39 : Cond.classLink R_La 39 "java/util/NoSuchElementException" ∈ lw_G := lw_g4 236 rfl rfl
theorem w_ml_La_35 : Cond.methodLink R_La 35 y_D_multiple ∈ lw_G := lw_g4 237 rfl rfl
theorem w_im_D_multiple : Cond.instanceMethod y_D_multiple ∈ lw_G := lw_g4 238 rfl rfl
theorem w_se_D_multiple : Cond.selects R_D y_D_multiple y_D_multiple ∈ lw_G := lw_g4 239 rfl rfl
theorem w_cd_D_multiple : Cond.code y_D_multiple b_D_multiple 4 (some .int) ∈ lw_G := lw_g5 0 rfl rfl
theorem w_ml_D_108 : Cond.methodLink R_D 108 y_D_checkRoot ∈ lw_G := lw_g5 1 rfl rfl
theorem w_im_D_checkRoot : Cond.instanceMethod y_D_checkRoot ∈ lw_G := lw_g5 3 rfl rfl
theorem w_cd_D_checkRoot : Cond.code y_D_checkRoot b_D_checkRoot 3 none ∈ lw_G := lw_g5 4 rfl rfl
theorem w_cl_D_164 : Cond.classLink R_D 164 "java/util/NoSuchElementException" ∈ lw_G := lw_g5 5 rfl rfl
theorem w_sr_D_182 : Cond.stringRef R_D 182 "no such root" ∈ lw_tbl := lw_t5 14 rfl
theorem w_ml_D_168 : Cond.methodLink R_D 168 ⟨"java/util/NoSuchElementException", "<init>", "(Ljava/lang/String;)V"⟩ ∈ lw_G := lw_g5 15 rfl rfl
theorem w_ml_D_112 : Cond.methodLink R_D 112 y_He_isolate ∈ lw_G := lw_g5 21 rfl rfl
theorem w_im_He_isolate : Cond.instanceMethod y_He_isolate ∈ lw_G := lw_g5 22 rfl rfl
theorem w_se_He_isolate : Cond.selects R_He y_He_isolate y_He_isolate ∈ lw_G := lw_g5 23 rfl rfl
theorem w_cd_He_isolate : Cond.code y_He_isolate b_He_isolate 10 none ∈ lw_G := lw_g5 24 rfl rfl
theorem w_ml_He_144 : Cond.methodLink R_He 144 y_Pt_placeLong ∈ lw_G := lw_g5 25 rfl rfl
theorem w_kl_He_154 : Cond.constantLong R_He 154 (-1 : Int64) ∈ lw_G := lw_g5 26 rfl rfl
theorem w_ml_He_159 : Cond.methodLink R_He 159 y_Ro_toMiddle ∈ lw_G := lw_g5 27 rfl rfl
theorem w_im_Ro_toMiddle : Cond.instanceMethod y_Ro_toMiddle ∈ lw_G := lw_g5 28 rfl rfl
theorem w_se_Ro_toMiddle : Cond.selects R_Ro y_Ro_toMiddle y_Ro_toMiddle ∈ lw_G := lw_g5 29 rfl rfl
theorem w_cd_Ro_toMiddle : Cond.code y_Ro_toMiddle b_Ro_toMiddle 2 none ∈ lw_G := lw_g5 30 rfl rfl
theorem w_ml_Ro_32 : Cond.methodLink R_Ro 32 y_Nu_shiftUp ∈ lw_G := lw_g5 31 rfl rfl
theorem w_ml_Ro_28 : Cond.methodLink R_Ro 28 y_Nu_step ∈ lw_G := lw_g5 32 rfl rfl
theorem w_im_Nu_step : Cond.instanceMethod y_Nu_step ∈ lw_G := lw_g5 33 rfl rfl
theorem w_se_Nu_step : Cond.selects R_Nu y_Nu_step y_Nu_step ∈ lw_G := lw_g5 34 rfl rfl
theorem w_cd_Nu_step : Cond.code y_Nu_step b_Nu_step 5 none ∈ lw_G := lw_g5 35 rfl rfl
theorem w_ml_Nu_67 : Cond.methodLink R_Nu 67 y_Nu_setLong ∈ lw_G := lw_g5 36 rfl rfl
theorem w_k_Nu_71 : Cond.constant R_Nu 71 (2147483647 : Int32) ∈ lw_G := lw_g5 37 rfl rfl
theorem w_ml_Ro_22 : Cond.methodLink R_Ro 22 y_Pt_place ∈ lw_G := lw_g5 38 rfl rfl
theorem w_im_Pt_place : Cond.instanceMethod y_Pt_place ∈ lw_G := lw_g5 39 rfl rfl
theorem w_se_Pt_place : Cond.selects R_Pt y_Pt_place y_Pt_place ∈ lw_G := lw_g5 40 rfl rfl
theorem w_cd_Pt_place : Cond.code y_Pt_place b_Pt_place 3 none ∈ lw_G := lw_g5 41 rfl rfl
theorem w_ml_Pt_26 : Cond.methodLink R_Pt 26 y_Nu_copy ∈ lw_G := lw_g5 42 rfl rfl
theorem w_ml_Pt_30 : Cond.methodLink R_Pt 30 ⟨"java/lang/Math", "max", "(II)I"⟩ ∈ lw_G := lw_g5 43 rfl rfl
theorem w_ml_Pt_36 : Cond.methodLink R_Pt 36 y_Nu_shiftUp ∈ lw_G := lw_g5 44 rfl rfl
theorem w_ml_Ro_35 : Cond.methodLink R_Ro 35 y_Nu_shiftDown ∈ lw_G := lw_g5 45 rfl rfl
theorem w_ml_He_163 : Cond.methodLink R_He 163 y_Ro_halve ∈ lw_G := lw_g5 46 rfl rfl
theorem w_im_Ro_halve : Cond.instanceMethod y_Ro_halve ∈ lw_G := lw_g5 47 rfl rfl
theorem w_se_Ro_halve : Cond.selects R_Ro y_Ro_halve y_Ro_halve ∈ lw_G := lw_g5 48 rfl rfl
theorem w_cd_Ro_halve : Cond.code y_Ro_halve b_Ro_halve 2 none ∈ lw_G := lw_g5 49 rfl rfl
theorem w_ml_He_167 : Cond.methodLink R_He 167 y_Ro_toLow ∈ lw_G := lw_g5 50 rfl rfl
theorem w_im_Ro_toLow : Cond.instanceMethod y_Ro_toLow ∈ lw_G := lw_g5 51 rfl rfl
theorem w_se_Ro_toLow : Cond.selects R_Ro y_Ro_toLow y_Ro_toLow ∈ lw_G := lw_g5 52 rfl rfl
theorem w_cd_Ro_toLow : Cond.code y_Ro_toLow b_Ro_toLow 2 none ∈ lw_G := lw_g5 53 rfl rfl
theorem w_ml_He_170 : Cond.methodLink R_He 170 y_Be_valueAt ∈ lw_G := lw_g5 54 rfl rfl
theorem w_ml_D_120 : Cond.methodLink R_D 120 y_Qu_multiplicity ∈ lw_G := lw_g5 55 rfl rfl
theorem w_im_Qu_multiplicity : Cond.instanceMethod y_Qu_multiplicity ∈ lw_G := lw_g5 56 rfl rfl
theorem w_se_Qu_multiplicity : Cond.selects R_Qu y_Qu_multiplicity y_Qu_multiplicity ∈ lw_G := lw_g5 57 rfl rfl
theorem w_cd_Qu_multiplicity : Cond.code y_Qu_multiplicity b_Qu_multiplicity 5 (some .int) ∈ lw_G := lw_g5 58 rfl rfl
theorem w_ml_Qu_73 : Cond.methodLink R_Qu 73 y_Py_copy ∈ lw_G := lw_g5 59 rfl rfl
theorem w_ml_Qu_125 : Cond.methodLink R_Qu 125 y_Py_derive ∈ lw_G := lw_g5 60 rfl rfl
theorem w_ml_Qu_128 : Cond.methodLink R_Qu 128 y_Qu_signOn ∈ lw_G := lw_g5 61 rfl rfl
theorem w_im_Qu_signOn : Cond.instanceMethod y_Qu_signOn ∈ lw_G := lw_g5 62 rfl rfl
theorem w_se_Qu_signOn : Cond.selects R_Qu y_Qu_signOn y_Qu_signOn ∈ lw_G := lw_g5 63 rfl rfl
theorem w_cd_Qu_signOn : Cond.code y_Qu_signOn b_Qu_signOn 7 (some .int) ∈ lw_G := lw_g5 64 rfl rfl
theorem w_ml_Qu_33 : Cond.methodLink R_Qu 33 y_Py_leadSign ∈ lw_G := lw_g5 65 rfl rfl
theorem w_ml_Qu_43 : Cond.methodLink R_Qu 43 y_Ro_toLow ∈ lw_G := lw_g5 66 rfl rfl
theorem w_ml_Qu_53 : Cond.methodLink R_Qu 53 y_Be_valueAt ∈ lw_G := lw_g5 67 rfl rfl
theorem w_ml_Qu_69 : Cond.methodLink R_Qu 69 y_Qu_multiply ∈ lw_G := lw_g5 68 rfl rfl
theorem w_im_Qu_multiply : Cond.instanceMethod y_Qu_multiply ∈ lw_G := lw_g5 70 rfl rfl
theorem w_cd_Qu_multiply : Cond.code y_Qu_multiply b_Qu_multiply 8 none ∈ lw_G := lw_g5 71 rfl rfl
theorem w_ml_Qu_92 : Cond.methodLink R_Qu 92 y_Nu_clear ∈ lw_G := lw_g5 72 rfl rfl
theorem w_ml_Qu_95 : Cond.methodLink R_Qu 95 ⟨"java/lang/Math", "max", "(II)I"⟩ ∈ lw_G := lw_g5 73 rfl rfl
theorem w_ml_Qu_101 : Cond.methodLink R_Qu 101 ⟨"java/lang/Math", "min", "(II)I"⟩ ∈ lw_G := lw_g5 74 rfl rfl
theorem w_ml_Qu_108 : Cond.methodLink R_Qu 108 y_Nu_setProduct ∈ lw_G := lw_g5 75 rfl rfl
theorem w_ml_Qu_112 : Cond.methodLink R_Qu 112 y_Nu_add ∈ lw_G := lw_g5 76 rfl rfl
theorem w_ml_Qu_116 : Cond.methodLink R_Qu 116 y_Py_lower ∈ lw_G := lw_g5 77 rfl rfl
theorem w_ml_Qu_77 : Cond.methodLink R_Qu 77 y_Ch_build ∈ lw_G := lw_g5 78 rfl rfl
theorem w_ml_Qu_81 : Cond.methodLink R_Qu 81 y_Ch_turnedChangesAt ∈ lw_G := lw_g5 79 rfl rfl
theorem w_im_Ch_turnedChangesAt : Cond.instanceMethod y_Ch_turnedChangesAt ∈ lw_G := lw_g5 80 rfl rfl
theorem w_se_Ch_turnedChangesAt : Cond.selects R_Ch y_Ch_turnedChangesAt y_Ch_turnedChangesAt ∈ lw_G := lw_g5 81 rfl rfl
theorem w_cd_Ch_turnedChangesAt : Cond.code y_Ch_turnedChangesAt b_Ch_turnedChangesAt 8 (some .int) ∈ lw_G := lw_g5 82 rfl rfl
theorem w_ml_Qu_85 : Cond.methodLink R_Qu 85 y_Ro_toHigh ∈ lw_G := lw_g5 83 rfl rfl
theorem w_im_Ro_toHigh : Cond.instanceMethod y_Ro_toHigh ∈ lw_G := lw_g5 84 rfl rfl
theorem w_se_Ro_toHigh : Cond.selects R_Ro y_Ro_toHigh y_Ro_toHigh ∈ lw_G := lw_g5 85 rfl rfl
theorem w_cd_Ro_toHigh : Cond.code y_Ro_toHigh b_Ro_toHigh 2 none ∈ lw_G := lw_g5 86 rfl rfl
theorem w_ml_La_103 : Cond.methodLink R_La 103 y_La_side ∈ lw_G := lw_g5 87 rfl rfl
theorem w_st_La_side : Cond.static y_La_side ∈ lw_G := lw_g5 88 rfl rfl
theorem w_cd_La_side : Cond.codeWith y_La_side b_La_side 8 (some .int) [(0, 14, 17, 13), (0, 14, 21, 22), (0, 14, 25, 39)] ∈ lw_G := lw_g5 89 rfl rfl
theorem w_ml_La_41 : Cond.methodLink R_La 41 y_D_side ∈ lw_G := lw_g5 90 rfl rfl
theorem w_im_D_side : Cond.instanceMethod y_D_side ∈ lw_G := lw_g5 91 rfl rfl
theorem w_se_D_side : Cond.selects R_D y_D_side y_D_side ∈ lw_G := lw_g5 92 rfl rfl
theorem w_cd_D_side : Cond.code y_D_side b_D_side 7 (some .int) ∈ lw_G := lw_g5 93 rfl rfl
theorem w_ml_D_124 : Cond.methodLink R_D 124 y_He_sideOf ∈ lw_G := lw_g5 94 rfl rfl
theorem w_im_He_sideOf : Cond.instanceMethod y_He_sideOf ∈ lw_G := lw_g5 95 rfl rfl
theorem w_se_He_sideOf : Cond.selects R_He y_He_sideOf y_He_sideOf ∈ lw_G := lw_g5 96 rfl rfl
theorem w_cd_He_sideOf : Cond.code y_He_sideOf b_He_sideOf 6 (some .int) ∈ lw_G := lw_g5 97 rfl rfl
theorem w_ml_La_107 : Cond.methodLink R_La 107 y_La_floor ∈ lw_G := lw_g5 98 rfl rfl
theorem w_st_La_floor : Cond.static y_La_floor ∈ lw_G := lw_g5 99 rfl rfl
theorem w_cd_La_floor : Cond.codeWith y_La_floor b_La_floor 7 (some .int) [(0, 14, 17, 13), (0, 14, 21, 22), (0, 14, 25, 39)] ∈ lw_G := lw_g5 100 rfl rfl
theorem w_ml_La_45 : Cond.methodLink R_La 45 y_D_floor ∈ lw_G := lw_g5 101 rfl rfl
theorem w_im_D_floor : Cond.instanceMethod y_D_floor ∈ lw_G := lw_g5 102 rfl rfl
theorem w_se_D_floor : Cond.selects R_D y_D_floor y_D_floor ∈ lw_G := lw_g5 103 rfl rfl
theorem w_cd_D_floor : Cond.code y_D_floor b_D_floor 7 (some .int) ∈ lw_G := lw_g5 104 rfl rfl
theorem w_sr_D_128 : Cond.stringRef R_D 128 "no such count of digits" ∈ lw_tbl := lw_t5 105 rfl
theorem w_ml_D_130 : Cond.methodLink R_D 130 y_He_refine ∈ lw_G := lw_g5 106 rfl rfl
theorem w_im_He_refine : Cond.instanceMethod y_He_refine ∈ lw_G := lw_g5 107 rfl rfl
theorem w_se_He_refine : Cond.selects R_He y_He_refine y_He_refine ∈ lw_G := lw_g5 108 rfl rfl
theorem w_cd_He_refine : Cond.code y_He_refine b_He_refine 8 none ∈ lw_G := lw_g5 109 rfl rfl
theorem w_ml_He_180 : Cond.methodLink R_He 180 y_He_halveAtMiddle ∈ lw_G := lw_g5 110 rfl rfl
theorem w_im_He_halveAtMiddle : Cond.instanceMethod y_He_halveAtMiddle ∈ lw_G := lw_g5 112 rfl rfl
theorem w_cd_He_halveAtMiddle : Cond.code y_He_halveAtMiddle b_He_halveAtMiddle 5 none ∈ lw_G := lw_g5 113 rfl rfl
theorem w_ml_He_184 : Cond.methodLink R_He 184 y_He_leap ∈ lw_G := lw_g5 114 rfl rfl
theorem w_im_He_leap : Cond.instanceMethod y_He_leap ∈ lw_G := lw_g5 116 rfl rfl
theorem w_cd_He_leap : Cond.code y_He_leap b_He_leap 10 (some .boolean) ∈ lw_G := lw_g5 117 rfl rfl
theorem w_ml_He_188 : Cond.methodLink R_He 188 y_He_guessOnLine ∈ lw_G := lw_g5 118 rfl rfl
theorem w_im_He_guessOnLine : Cond.instanceMethod y_He_guessOnLine ∈ lw_G := lw_g5 120 rfl rfl
theorem w_cd_He_guessOnLine : Cond.code y_He_guessOnLine b_He_guessOnLine 5 none ∈ lw_G := lw_g5 121 rfl rfl
theorem w_ml_He_202 : Cond.methodLink R_He 202 y_Nu_copy ∈ lw_G := lw_g5 122 rfl rfl
theorem w_ml_He_207 : Cond.methodLink R_He 207 y_Ro_toHigh ∈ lw_G := lw_g5 123 rfl rfl
theorem w_ml_He_213 : Cond.methodLink R_He 213 y_Nu_add ∈ lw_G := lw_g5 124 rfl rfl
theorem w_ml_He_216 : Cond.methodLink R_He 216 ⟨"java/lang/Math", "abs", "(I)I"⟩ ∈ lw_G := lw_g5 125 rfl rfl
theorem w_ml_He_219 : Cond.methodLink R_He 219 y_Nu_shiftUp ∈ lw_G := lw_g5 126 rfl rfl
theorem w_ml_He_226 : Cond.methodLink R_He 226 y_Di_divide ∈ lw_G := lw_g5 127 rfl rfl
theorem w_ml_He_195 : Cond.methodLink R_He 195 y_Pt_place ∈ lw_G := lw_g5 128 rfl rfl
theorem w_ml_He_199 : Cond.methodLink R_He 199 y_Nu_step ∈ lw_G := lw_g5 129 rfl rfl
theorem w_ml_D_134 : Cond.methodLink R_D 134 y_He_floorTen ∈ lw_G := lw_g5 130 rfl rfl
theorem w_im_He_floorTen : Cond.instanceMethod y_He_floorTen ∈ lw_G := lw_g5 131 rfl rfl
theorem w_se_He_floorTen : Cond.selects R_He y_He_floorTen y_He_floorTen ∈ lw_G := lw_g5 132 rfl rfl
theorem w_cd_He_floorTen : Cond.code y_He_floorTen b_He_floorTen 6 (some (.object "SturmDesk$Num")) ∈ lw_G := lw_g5 133 rfl rfl
theorem w_ml_He_238 : Cond.methodLink R_He 238 y_Be_setTens ∈ lw_G := lw_g5 134 rfl rfl
theorem w_im_Be_setTens : Cond.instanceMethod y_Be_setTens ∈ lw_G := lw_g5 135 rfl rfl
theorem w_se_Be_setTens : Cond.selects R_Be y_Be_setTens y_Be_setTens ∈ lw_G := lw_g5 136 rfl rfl
theorem w_cd_Be_setTens : Cond.code y_Be_setTens b_Be_setTens 3 none ∈ lw_G := lw_g5 137 rfl rfl
theorem w_ml_Be_114 : Cond.methodLink R_Be 114 y_Nu_setLong ∈ lw_G := lw_g5 138 rfl rfl
theorem w_ml_Be_135 : Cond.methodLink R_Be 135 y_Nu_times ∈ lw_G := lw_g5 139 rfl rfl
theorem w_ml_He_244 : Cond.methodLink R_He 244 y_Nu_setProduct ∈ lw_G := lw_g5 140 rfl rfl
theorem w_ml_He_235 : Cond.methodLink R_He 235 y_Nu_move ∈ lw_G := lw_g5 141 rfl rfl
theorem w_im_Nu_move : Cond.instanceMethod y_Nu_move ∈ lw_G := lw_g5 142 rfl rfl
theorem w_se_Nu_move : Cond.selects R_Nu y_Nu_move y_Nu_move ∈ lw_G := lw_g5 143 rfl rfl
theorem w_cd_Nu_move : Cond.code y_Nu_move b_Nu_move 3 none ∈ lw_G := lw_g5 144 rfl rfl
theorem w_ml_Nu_72 : Cond.methodLink R_Nu 72 y_Nu_shiftUp ∈ lw_G := lw_g5 145 rfl rfl
theorem w_ml_Nu_76 : Cond.methodLink R_Nu 76 y_Nu_shiftDown ∈ lw_G := lw_g5 146 rfl rfl
theorem w_ml_Nu_80 : Cond.methodLink R_Nu 80 y_Nu_step ∈ lw_G := lw_g5 147 rfl rfl
theorem w_ml_He_247 : Cond.methodLink R_He 247 y_Nu_same ∈ lw_G := lw_g5 148 rfl rfl
theorem w_im_Nu_same : Cond.instanceMethod y_Nu_same ∈ lw_G := lw_g5 149 rfl rfl
theorem w_se_Nu_same : Cond.selects R_Nu y_Nu_same y_Nu_same ∈ lw_G := lw_g5 150 rfl rfl
theorem w_cd_Nu_same : Cond.code y_Nu_same b_Nu_same 2 (some .boolean) ∈ lw_G := lw_g5 151 rfl rfl
theorem w_ml_He_251 : Cond.methodLink R_He 251 y_Be_signAtFraction ∈ lw_G := lw_g5 152 rfl rfl
theorem w_im_Be_signAtFraction : Cond.instanceMethod y_Be_signAtFraction ∈ lw_G := lw_g5 153 rfl rfl
theorem w_se_Be_signAtFraction : Cond.selects R_Be y_Be_signAtFraction y_Be_signAtFraction ∈ lw_G := lw_g5 154 rfl rfl
theorem w_cd_Be_signAtFraction : Cond.code y_Be_signAtFraction b_Be_signAtFraction 8 (some .int) ∈ lw_G := lw_g5 155 rfl rfl
theorem w_ml_D_138 : Cond.methodLink R_D 138 y_He_floorTwo ∈ lw_G := lw_g5 156 rfl rfl
theorem w_im_He_floorTwo : Cond.instanceMethod y_He_floorTwo ∈ lw_G := lw_g5 157 rfl rfl
theorem w_se_He_floorTwo : Cond.selects R_He y_He_floorTwo y_He_floorTwo ∈ lw_G := lw_g5 158 rfl rfl
theorem w_cd_He_floorTwo : Cond.code y_He_floorTwo b_He_floorTwo 5 (some (.object "SturmDesk$Num")) ∈ lw_G := lw_g5 159 rfl rfl
theorem w_ml_D_141 : Cond.methodLink R_D 141 y_Tx_write ∈ lw_G := lw_g5 160 rfl rfl
theorem w_im_Tx_write : Cond.instanceMethod y_Tx_write ∈ lw_G := lw_g5 161 rfl rfl
theorem w_se_Tx_write : Cond.selects R_Tx y_Tx_write y_Tx_write ∈ lw_G := lw_g5 162 rfl rfl
theorem w_cd_Tx_write : Cond.code y_Tx_write b_Tx_write 5 (some .int) ∈ lw_G := lw_g5 163 rfl rfl
theorem w_ml_Tx_25 : Cond.methodLink R_Tx 25 y_Nu_copy ∈ lw_G := lw_g5 164 rfl rfl
theorem w_k_Tx_33 : Cond.constant R_Tx 33 (1000000000 : Int32) ∈ lw_G := lw_g5 165 rfl rfl
theorem w_ml_Tx_34 : Cond.methodLink R_Tx 34 y_Nu_divideSmall ∈ lw_G := lw_g5 166 rfl rfl
theorem w_ml_La_111 : Cond.methodLink R_La 111 y_La_apart ∈ lw_G := lw_g5 167 rfl rfl
theorem w_st_La_apart : Cond.static y_La_apart ∈ lw_G := lw_g5 168 rfl rfl
theorem w_cd_La_apart : Cond.codeWith y_La_apart b_La_apart 4 (some .int) [(0, 9, 12, 13), (0, 9, 15, 22)] ∈ lw_G := lw_g5 169 rfl rfl
theorem w_ml_La_49 : Cond.methodLink R_La 49 y_D_apart ∈ lw_G := lw_g5 170 rfl rfl
theorem w_im_D_apart : Cond.instanceMethod y_D_apart ∈ lw_G := lw_g5 171 rfl rfl
theorem w_se_D_apart : Cond.selects R_D y_D_apart y_D_apart ∈ lw_G := lw_g5 172 rfl rfl
theorem w_cd_D_apart : Cond.code y_D_apart b_D_apart 5 (some .int) ∈ lw_G := lw_g5 173 rfl rfl
theorem w_ml_D_145 : Cond.methodLink R_D 145 y_He_firstLevelApart ∈ lw_G := lw_g5 174 rfl rfl
theorem w_im_He_firstLevelApart : Cond.instanceMethod y_He_firstLevelApart ∈ lw_G := lw_g5 175 rfl rfl
theorem w_se_He_firstLevelApart : Cond.selects R_He y_He_firstLevelApart y_He_firstLevelApart ∈ lw_G := lw_g5 176 rfl rfl
theorem w_cd_He_firstLevelApart : Cond.code y_He_firstLevelApart b_He_firstLevelApart 7 (some .int) ∈ lw_G := lw_g5 177 rfl rfl
theorem w_ml_La_114 : Cond.methodLink R_La 114 y_La_order ∈ lw_G := lw_g5 178 rfl rfl
theorem w_st_La_order : Cond.static y_La_order ∈ lw_G := lw_g5 179 rfl rfl
theorem w_cd_La_order : Cond.codeWith y_La_order b_La_order 5 (some .int) [(0, 10, 13, 22), (0, 10, 17, 39)] ∈ lw_G := lw_g5 180 rfl rfl
theorem w_ml_La_52 : Cond.methodLink R_La 52 y_D_order ∈ lw_G := lw_g5 181 rfl rfl
theorem w_im_D_order : Cond.instanceMethod y_D_order ∈ lw_G := lw_g5 182 rfl rfl
theorem w_se_D_order : Cond.selects R_D y_D_order y_D_order ∈ lw_G := lw_g5 183 rfl rfl
theorem w_cd_D_order : Cond.code y_D_order b_D_order 5 (some .int) ∈ lw_G := lw_g5 184 rfl rfl
theorem w_ml_D_149 : Cond.methodLink R_D 149 y_Qu_compare ∈ lw_G := lw_g5 185 rfl rfl
theorem w_im_Qu_compare : Cond.instanceMethod y_Qu_compare ∈ lw_G := lw_g5 186 rfl rfl
theorem w_se_Qu_compare : Cond.selects R_Qu y_Qu_compare y_Qu_compare ∈ lw_G := lw_g5 187 rfl rfl
theorem w_cd_Qu_compare : Cond.code y_Qu_compare b_Qu_compare 11 (some .int) ∈ lw_G := lw_g5 188 rfl rfl
theorem w_ml_Qu_136 : Cond.methodLink R_Qu 136 y_He_sideOf ∈ lw_G := lw_g5 189 rfl rfl
theorem w_ml_La_117 : Cond.methodLink R_La 117 y_La_signAt ∈ lw_G := lw_g5 190 rfl rfl
theorem w_st_La_signAt : Cond.static y_La_signAt ∈ lw_G := lw_g5 191 rfl rfl
theorem w_cd_La_signAt : Cond.codeWith y_La_signAt b_La_signAt 5 (some .int) [(0, 10, 13, 13), (0, 10, 17, 22), (0, 10, 21, 39)] ∈ lw_G := lw_g5 192 rfl rfl
theorem w_ml_La_55 : Cond.methodLink R_La 55 y_D_signAt ∈ lw_G := lw_g5 193 rfl rfl
theorem w_im_D_signAt : Cond.instanceMethod y_D_signAt ∈ lw_G := lw_g5 194 rfl rfl
theorem w_se_D_signAt : Cond.selects R_D y_D_signAt y_D_signAt ∈ lw_G := lw_g5 195 rfl rfl
theorem w_cd_D_signAt : Cond.code y_D_signAt b_D_signAt 5 (some .int) ∈ lw_G := lw_g5 196 rfl rfl
theorem w_ml_D_153 : Cond.methodLink R_D 153 y_Qu_signOn ∈ lw_G := lw_g5 197 rfl rfl
theorem w_ml_La_120 : Cond.methodLink R_La 120 y_La_common ∈ lw_G := lw_g5 198 rfl rfl
theorem w_st_La_common : Cond.static y_La_common ∈ lw_G := lw_g5 199 rfl rfl
theorem w_cd_La_common : Cond.codeWith y_La_common b_La_common 3 (some .int) [(0, 8, 11, 22)] ∈ lw_G := lw_g5 200 rfl rfl
theorem w_ml_La_58 : Cond.methodLink R_La 58 y_D_common ∈ lw_G := lw_g5 201 rfl rfl
theorem w_im_D_common : Cond.instanceMethod y_D_common ∈ lw_G := lw_g5 202 rfl rfl
theorem w_se_D_common : Cond.selects R_D y_D_common y_D_common ∈ lw_G := lw_g5 203 rfl rfl
theorem w_cd_D_common : Cond.code y_D_common b_D_common 3 (some .int) ∈ lw_G := lw_g5 204 rfl rfl
theorem w_ml_D_157 : Cond.methodLink R_D 157 y_Qu_countShared ∈ lw_G := lw_g5 205 rfl rfl
theorem w_im_Qu_countShared : Cond.instanceMethod y_Qu_countShared ∈ lw_G := lw_g5 206 rfl rfl
theorem w_se_Qu_countShared : Cond.selects R_Qu y_Qu_countShared y_Qu_countShared ∈ lw_G := lw_g5 207 rfl rfl
theorem w_cd_Qu_countShared : Cond.code y_Qu_countShared b_Qu_countShared 5 (some .int) ∈ lw_G := lw_g5 208 rfl rfl
theorem w_ml_Qu_143 : Cond.methodLink R_Qu 143 y_Ch_last ∈ lw_G := lw_g5 209 rfl rfl
theorem w_ml_Qu_147 : Cond.methodLink R_Qu 147 y_Be_setDivisor ∈ lw_G := lw_g5 210 rfl rfl
theorem w_ml_Qu_153 : Cond.methodLink R_Qu 153 y_Ch_deriveHead ∈ lw_G := lw_g5 211 rfl rfl
theorem w_ml_Qu_156 : Cond.methodLink R_Qu 156 y_Ch_realRoots ∈ lw_G := lw_g5 212 rfl rfl
theorem w_ml_La_124 : Cond.methodLink R_La 124 y_La_out ∈ lw_G := lw_g5 213 rfl rfl
theorem w_st_La_out : Cond.static y_La_out ∈ lw_G := lw_g5 214 rfl rfl
theorem w_cd_La_out : Cond.codeWith y_La_out b_La_out 4 (some .int) [(0, 8, 11, 39)] ∈ lw_G := lw_g5 215 rfl rfl
theorem w_ml_La_62 : Cond.methodLink R_La 62 y_D_out ∈ lw_G := lw_g5 216 rfl rfl
theorem w_im_D_out : Cond.instanceMethod y_D_out ∈ lw_G := lw_g5 217 rfl rfl
theorem w_se_D_out : Cond.selects R_D y_D_out y_D_out ∈ lw_G := lw_g5 218 rfl rfl
theorem w_cd_D_out : Cond.code y_D_out b_D_out 2 (some .long) ∈ lw_G := lw_g5 219 rfl rfl
theorem w_sr_D_166 : Cond.stringRef R_D 166 "no such byte" ∈ lw_tbl := lw_t5 220 rfl
theorem w_ml_D_169 : Cond.methodLink R_D 169 y_Tx_eightFrom ∈ lw_G := lw_g5 221 rfl rfl
theorem w_im_Tx_eightFrom : Cond.instanceMethod y_Tx_eightFrom ∈ lw_G := lw_g5 222 rfl rfl
theorem w_se_Tx_eightFrom : Cond.selects R_Tx y_Tx_eightFrom y_Tx_eightFrom ∈ lw_G := lw_g5 223 rfl rfl
theorem w_cd_Tx_eightFrom : Cond.code y_Tx_eightFrom b_Tx_eightFrom 5 (some .long) ∈ lw_G := lw_g5 224 rfl rfl
theorem w_kl_Tx_41 : Cond.constantLong R_Tx 41 (255 : Int64) ∈ lw_G := lw_g5 225 rfl rfl
theorem w_cl_La_67 : Cond.classLink R_La 67 R_Mo ∈ lw_G := lw_g5 226 rfl rfl
theorem w_ins_Mo : Cond.instantiable R_Mo 11 ∈ lw_G := lw_g5 227 rfl rfl
theorem w_ml_La_69 : Cond.methodLink R_La 69 y_Mo_init ∈ lw_G := lw_g5 228 rfl rfl
theorem w_im_Mo_init : Cond.instanceMethod y_Mo_init ∈ lw_G := lw_g5 229 rfl rfl
theorem w_cd_Mo_init : Cond.code y_Mo_init b_Mo_init 2 none ∈ lw_G := lw_g5 230 rfl rfl
theorem w_ml_Mo_1 : Cond.methodLink R_Mo 1 objectInit ∈ lw_G := lw_g5 231 rfl rfl
theorem w_k_Mo_7 : Cond.constant R_Mo 7 (163840 : Int32) ∈ lw_G := lw_g5 232 rfl rfl
theorem w_fl_Mo_39 : Cond.fieldLink R_Mo 39 "SturmDeskModel" "thrown" "I" ∈ lw_G := lw_g5 233 rfl rfl
theorem w_fl_Mo_8 : Cond.fieldLink R_Mo 8 "SturmDeskModel" "limb" "[I" ∈ lw_G := lw_g5 234 rfl rfl
theorem w_fl_Mo_14 : Cond.fieldLink R_Mo 14 "SturmDeskModel" "size" "[I" ∈ lw_G := lw_g5 235 rfl rfl
theorem w_fl_Mo_17 : Cond.fieldLink R_Mo 17 "SturmDeskModel" "sign" "[I" ∈ lw_G := lw_g5 236 rfl rfl
theorem w_fl_Mo_20 : Cond.fieldLink R_Mo 20 "SturmDeskModel" "degree" "[I" ∈ lw_G := lw_g5 237 rfl rfl
theorem w_fl_Mo_23 : Cond.fieldLink R_Mo 23 "SturmDeskModel" "deep" "[I" ∈ lw_G := lw_g5 238 rfl rfl
theorem w_fl_Mo_26 : Cond.fieldLink R_Mo 26 "SturmDeskModel" "exact" "[Z" ∈ lw_G := lw_g5 239 rfl rfl
theorem w_fl_Mo_30 : Cond.fieldLink R_Mo 30 "SturmDeskModel" "found" "[I" ∈ lw_G := lw_g6 0 rfl rfl
theorem w_fl_Mo_33 : Cond.fieldLink R_Mo 33 "SturmDeskModel" "text" "[I" ∈ lw_G := lw_g6 1 rfl rfl
theorem w_fl_Mo_198 : Cond.fieldLink R_Mo 198 "SturmDeskModel" "written" "I" ∈ lw_G := lw_g6 2 rfl rfl
theorem w_fl_Mo_36 : Cond.fieldLink R_Mo 36 "SturmDeskModel" "spare" "[I" ∈ lw_G := lw_g6 3 rfl rfl
theorem w_ac_boolean : Cond.arrayClass .boolean ∈ lw_G := lw_g6 27 rfl rfl
theorem w_ml_La_76 : Cond.methodLink R_La 76 y_Mo_thrown ∈ lw_G := lw_g6 28 rfl rfl
theorem w_im_Mo_thrown : Cond.instanceMethod y_Mo_thrown ∈ lw_G := lw_g6 29 rfl rfl
theorem w_se_Mo_thrown : Cond.selects R_Mo y_Mo_thrown y_Mo_thrown ∈ lw_G := lw_g6 30 rfl rfl
theorem w_cd_Mo_thrown : Cond.code y_Mo_thrown b_Mo_thrown 1 (some .int) ∈ lw_G := lw_g6 31 rfl rfl
theorem w_ml_La_75 : Cond.methodLink R_La 75 y_Mo_put ∈ lw_G := lw_g6 32 rfl rfl
theorem w_im_Mo_put : Cond.instanceMethod y_Mo_put ∈ lw_G := lw_g6 33 rfl rfl
theorem w_se_Mo_put : Cond.selects R_Mo y_Mo_put y_Mo_put ∈ lw_G := lw_g6 34 rfl rfl
theorem w_cd_Mo_put : Cond.code y_Mo_put b_Mo_put 5 none ∈ lw_G := lw_g6 35 rfl rfl
theorem w_ml_Mo_140 : Cond.methodLink R_Mo 140 y_Mo_in ∈ lw_G := lw_g6 36 rfl rfl
theorem w_st_Mo_in : Cond.static y_Mo_in ∈ lw_G := lw_g6 37 rfl rfl
theorem w_cd_Mo_in : Cond.code y_Mo_in b_Mo_in 6 (some .boolean) ∈ lw_G := lw_g6 38 rfl rfl
theorem w_kl_Mo_144 : Cond.constantLong R_Mo 144 (8 : Int64) ∈ lw_G := lw_g6 39 rfl rfl
theorem w_ml_Mo_146 : Cond.methodLink R_Mo 146 y_Mo_fails ∈ lw_G := lw_g6 40 rfl rfl
theorem w_im_Mo_fails : Cond.instanceMethod y_Mo_fails ∈ lw_G := lw_g6 42 rfl rfl
theorem w_cd_Mo_fails : Cond.code y_Mo_fails b_Mo_fails 3 (some .boolean) ∈ lw_G := lw_g6 43 rfl rfl
theorem w_ml_Mo_72 : Cond.methodLink R_Mo 72 y_Mo_set ∈ lw_G := lw_g6 44 rfl rfl
theorem w_im_Mo_set : Cond.instanceMethod y_Mo_set ∈ lw_G := lw_g6 46 rfl rfl
theorem w_cd_Mo_set : Cond.code y_Mo_set b_Mo_set 9 none ∈ lw_G := lw_g6 47 rfl rfl
theorem w_kl_Mo_43 : Cond.constantLong R_Mo 43 (65536 : Int64) ∈ lw_G := lw_g6 48 rfl rfl
theorem w_ml_Mo_86 : Cond.methodLink R_Mo 86 y_Mo_trimPoly ∈ lw_G := lw_g6 49 rfl rfl
theorem w_im_Mo_trimPoly : Cond.instanceMethod y_Mo_trimPoly ∈ lw_G := lw_g6 51 rfl rfl
theorem w_cd_Mo_trimPoly : Cond.code y_Mo_trimPoly b_Mo_trimPoly 3 none ∈ lw_G := lw_g6 52 rfl rfl
theorem w_ml_La_82 : Cond.methodLink R_La 82 y_Mo_degree ∈ lw_G := lw_g6 53 rfl rfl
theorem w_im_Mo_degree : Cond.instanceMethod y_Mo_degree ∈ lw_G := lw_g6 54 rfl rfl
theorem w_se_Mo_degree : Cond.selects R_Mo y_Mo_degree y_Mo_degree ∈ lw_G := lw_g6 55 rfl rfl
theorem w_cd_Mo_degree : Cond.code y_Mo_degree b_Mo_degree 2 (some .int) ∈ lw_G := lw_g6 56 rfl rfl
theorem w_ml_La_85 : Cond.methodLink R_La 85 y_Mo_roots ∈ lw_G := lw_g6 57 rfl rfl
theorem w_im_Mo_roots : Cond.instanceMethod y_Mo_roots ∈ lw_G := lw_g6 58 rfl rfl
theorem w_se_Mo_roots : Cond.selects R_Mo y_Mo_roots y_Mo_roots ∈ lw_G := lw_g6 59 rfl rfl
theorem w_cd_Mo_roots : Cond.code y_Mo_roots b_Mo_roots 2 (some .int) ∈ lw_G := lw_g6 60 rfl rfl
theorem w_ml_Mo_153 : Cond.methodLink R_Mo 153 y_Mo_stops ∈ lw_G := lw_g6 61 rfl rfl
theorem w_im_Mo_stops : Cond.instanceMethod y_Mo_stops ∈ lw_G := lw_g6 63 rfl rfl
theorem w_cd_Mo_stops : Cond.code y_Mo_stops b_Mo_stops 3 (some .boolean) ∈ lw_G := lw_g6 64 rfl rfl
theorem w_ml_Mo_150 : Cond.methodLink R_Mo 150 y_Mo_isolates ∈ lw_G := lw_g6 65 rfl rfl
theorem w_im_Mo_isolates : Cond.instanceMethod y_Mo_isolates ∈ lw_G := lw_g6 67 rfl rfl
theorem w_cd_Mo_isolates : Cond.code y_Mo_isolates b_Mo_isolates 8 none ∈ lw_G := lw_g6 68 rfl rfl
theorem w_ml_Mo_118 : Cond.methodLink R_Mo 118 y_Mo_part ∈ lw_G := lw_g6 69 rfl rfl
theorem w_im_Mo_part : Cond.instanceMethod y_Mo_part ∈ lw_G := lw_g6 71 rfl rfl
theorem w_cd_Mo_part : Cond.code y_Mo_part b_Mo_part 2 none ∈ lw_G := lw_g6 72 rfl rfl
theorem w_ml_Mo_99 : Cond.methodLink R_Mo 99 y_Mo_derive ∈ lw_G := lw_g6 73 rfl rfl
theorem w_im_Mo_derive : Cond.instanceMethod y_Mo_derive ∈ lw_G := lw_g6 75 rfl rfl
theorem w_cd_Mo_derive : Cond.code y_Mo_derive b_Mo_derive 4 none ∈ lw_G := lw_g6 76 rfl rfl
theorem w_ml_Mo_76 : Cond.methodLink R_Mo 76 y_Mo_product ∈ lw_G := lw_g6 77 rfl rfl
theorem w_im_Mo_product : Cond.instanceMethod y_Mo_product ∈ lw_G := lw_g6 79 rfl rfl
theorem w_cd_Mo_product : Cond.code y_Mo_product b_Mo_product 11 none ∈ lw_G := lw_g6 80 rfl rfl
theorem w_ml_Mo_45 : Cond.methodLink R_Mo 45 y_Mo_at ∈ lw_G := lw_g6 81 rfl rfl
theorem w_im_Mo_at : Cond.instanceMethod y_Mo_at ∈ lw_G := lw_g6 83 rfl rfl
theorem w_cd_Mo_at : Cond.code y_Mo_at b_Mo_at 3 (some .int) ∈ lw_G := lw_g6 84 rfl rfl
theorem w_ml_Mo_53 : Cond.methodLink R_Mo 53 y_Mo_takes ∈ lw_G := lw_g6 85 rfl rfl
theorem w_im_Mo_takes : Cond.instanceMethod y_Mo_takes ∈ lw_G := lw_g6 87 rfl rfl
theorem w_cd_Mo_takes : Cond.code y_Mo_takes b_Mo_takes 5 none ∈ lw_G := lw_g6 88 rfl rfl
theorem w_ml_Mo_57 : Cond.methodLink R_Mo 57 y_Mo_trim ∈ lw_G := lw_g6 89 rfl rfl
theorem w_im_Mo_trim : Cond.instanceMethod y_Mo_trim ∈ lw_G := lw_g6 91 rfl rfl
theorem w_cd_Mo_trim : Cond.code y_Mo_trim b_Mo_trim 3 none ∈ lw_G := lw_g6 92 rfl rfl
theorem w_ml_Mo_89 : Cond.methodLink R_Mo 89 y_Mo_copyPoly ∈ lw_G := lw_g6 93 rfl rfl
theorem w_im_Mo_copyPoly : Cond.instanceMethod y_Mo_copyPoly ∈ lw_G := lw_g6 95 rfl rfl
theorem w_cd_Mo_copyPoly : Cond.code y_Mo_copyPoly b_Mo_copyPoly 4 none ∈ lw_G := lw_g6 96 rfl rfl
theorem w_ml_Mo_69 : Cond.methodLink R_Mo 69 y_Mo_copy ∈ lw_G := lw_g6 97 rfl rfl
theorem w_im_Mo_copy : Cond.instanceMethod y_Mo_copy ∈ lw_G := lw_g6 99 rfl rfl
theorem w_cd_Mo_copy : Cond.code y_Mo_copy b_Mo_copy 4 none ∈ lw_G := lw_g6 100 rfl rfl
theorem w_ml_Mo_92 : Cond.methodLink R_Mo 92 y_Mo_primitive ∈ lw_G := lw_g6 101 rfl rfl
theorem w_im_Mo_primitive : Cond.instanceMethod y_Mo_primitive ∈ lw_G := lw_g6 103 rfl rfl
theorem w_cd_Mo_primitive : Cond.code y_Mo_primitive b_Mo_primitive 6 none ∈ lw_G := lw_g6 104 rfl rfl
theorem w_ml_Mo_79 : Cond.methodLink R_Mo 79 y_Mo_quotient ∈ lw_G := lw_g6 105 rfl rfl
theorem w_im_Mo_quotient : Cond.instanceMethod y_Mo_quotient ∈ lw_G := lw_g6 107 rfl rfl
theorem w_cd_Mo_quotient : Cond.code y_Mo_quotient b_Mo_quotient 8 none ∈ lw_G := lw_g6 108 rfl rfl
theorem w_ml_Mo_49 : Cond.methodLink R_Mo 49 y_Mo_against ∈ lw_G := lw_g6 109 rfl rfl
theorem w_im_Mo_against : Cond.instanceMethod y_Mo_against ∈ lw_G := lw_g6 111 rfl rfl
theorem w_cd_Mo_against : Cond.code y_Mo_against b_Mo_against 4 (some .int) ∈ lw_G := lw_g6 112 rfl rfl
theorem w_ml_Mo_61 : Cond.methodLink R_Mo 61 y_Mo_guess ∈ lw_G := lw_g6 113 rfl rfl
theorem w_im_Mo_guess : Cond.instanceMethod y_Mo_guess ∈ lw_G := lw_g6 115 rfl rfl
theorem w_cd_Mo_guess : Cond.code y_Mo_guess b_Mo_guess 10 (some .int) ∈ lw_G := lw_g6 116 rfl rfl
theorem w_ml_Mo_64 : Cond.methodLink R_Mo 64 y_Mo_lessens ∈ lw_G := lw_g6 117 rfl rfl
theorem w_im_Mo_lessens : Cond.instanceMethod y_Mo_lessens ∈ lw_G := lw_g6 119 rfl rfl
theorem w_cd_Mo_lessens : Cond.code y_Mo_lessens b_Mo_lessens 9 none ∈ lw_G := lw_g6 120 rfl rfl
theorem w_kl_Mo_67 : Cond.constantLong R_Mo 67 (65535 : Int64) ∈ lw_G := lw_g6 121 rfl rfl
theorem w_ml_Mo_102 : Cond.methodLink R_Mo 102 y_Mo_divisor ∈ lw_G := lw_g6 122 rfl rfl
theorem w_im_Mo_divisor : Cond.instanceMethod y_Mo_divisor ∈ lw_G := lw_g6 124 rfl rfl
theorem w_cd_Mo_divisor : Cond.code y_Mo_divisor b_Mo_divisor 4 none ∈ lw_G := lw_g6 125 rfl rfl
theorem w_ml_Mo_96 : Cond.methodLink R_Mo 96 y_Mo_remainder ∈ lw_G := lw_g6 126 rfl rfl
theorem w_im_Mo_remainder : Cond.instanceMethod y_Mo_remainder ∈ lw_G := lw_g6 128 rfl rfl
theorem w_cd_Mo_remainder : Cond.code y_Mo_remainder b_Mo_remainder 5 none ∈ lw_G := lw_g6 129 rfl rfl
theorem w_ml_Mo_83 : Cond.methodLink R_Mo 83 y_Mo_sum ∈ lw_G := lw_g6 130 rfl rfl
theorem w_im_Mo_sum : Cond.instanceMethod y_Mo_sum ∈ lw_G := lw_g6 132 rfl rfl
theorem w_cd_Mo_sum : Cond.code y_Mo_sum b_Mo_sum 15 none ∈ lw_G := lw_g6 133 rfl rfl
theorem w_k_Mo_52 : Cond.constant R_Mo 52 (65536 : Int32) ∈ lw_G := lw_g6 134 rfl rfl
theorem w_ml_Mo_105 : Cond.methodLink R_Mo 105 y_Mo_exactly ∈ lw_G := lw_g6 135 rfl rfl
theorem w_im_Mo_exactly : Cond.instanceMethod y_Mo_exactly ∈ lw_G := lw_g6 137 rfl rfl
theorem w_cd_Mo_exactly : Cond.code y_Mo_exactly b_Mo_exactly 8 none ∈ lw_G := lw_g6 138 rfl rfl
theorem w_ml_Mo_121 : Cond.methodLink R_Mo 121 y_Mo_changes ∈ lw_G := lw_g6 139 rfl rfl
theorem w_im_Mo_changes : Cond.instanceMethod y_Mo_changes ∈ lw_G := lw_g6 141 rfl rfl
theorem w_cd_Mo_changes : Cond.code y_Mo_changes b_Mo_changes 12 (some .int) ∈ lw_G := lw_g6 142 rfl rfl
theorem w_ml_Mo_111 : Cond.methodLink R_Mo 111 y_Mo_lower ∈ lw_G := lw_g6 143 rfl rfl
theorem w_im_Mo_lower : Cond.instanceMethod y_Mo_lower ∈ lw_G := lw_g6 145 rfl rfl
theorem w_cd_Mo_lower : Cond.code y_Mo_lower b_Mo_lower 4 (some .int) ∈ lw_G := lw_g6 146 rfl rfl
theorem w_ml_Mo_108 : Cond.methodLink R_Mo 108 y_Mo_lift ∈ lw_G := lw_g6 147 rfl rfl
theorem w_im_Mo_lift : Cond.instanceMethod y_Mo_lift ∈ lw_G := lw_g6 149 rfl rfl
theorem w_cd_Mo_lift : Cond.code y_Mo_lift b_Mo_lift 10 none ∈ lw_G := lw_g6 150 rfl rfl
theorem w_ml_Mo_124 : Cond.methodLink R_Mo 124 y_Mo_keep ∈ lw_G := lw_g6 151 rfl rfl
theorem w_im_Mo_keep : Cond.instanceMethod y_Mo_keep ∈ lw_G := lw_g6 153 rfl rfl
theorem w_cd_Mo_keep : Cond.code y_Mo_keep b_Mo_keep 6 none ∈ lw_G := lw_g6 154 rfl rfl
theorem w_ml_Mo_115 : Cond.methodLink R_Mo 115 y_Mo_cell ∈ lw_G := lw_g6 155 rfl rfl
theorem w_im_Mo_cell : Cond.instanceMethod y_Mo_cell ∈ lw_G := lw_g6 157 rfl rfl
theorem w_cd_Mo_cell : Cond.code y_Mo_cell b_Mo_cell 3 (some .int) ∈ lw_G := lw_g6 158 rfl rfl
theorem w_ml_Mo_128 : Cond.methodLink R_Mo 128 y_Mo_parts ∈ lw_G := lw_g6 159 rfl rfl
theorem w_im_Mo_parts : Cond.instanceMethod y_Mo_parts ∈ lw_G := lw_g6 161 rfl rfl
theorem w_cd_Mo_parts : Cond.code y_Mo_parts b_Mo_parts 8 (some .int) ∈ lw_G := lw_g6 162 rfl rfl
theorem w_ml_Mo_131 : Cond.methodLink R_Mo 131 y_Mo_signOf ∈ lw_G := lw_g6 163 rfl rfl
theorem w_im_Mo_signOf : Cond.instanceMethod y_Mo_signOf ∈ lw_G := lw_g6 165 rfl rfl
theorem w_cd_Mo_signOf : Cond.code y_Mo_signOf b_Mo_signOf 6 (some .int) ∈ lw_G := lw_g6 166 rfl rfl
theorem w_ml_Mo_134 : Cond.methodLink R_Mo 134 y_Mo_refines ∈ lw_G := lw_g6 167 rfl rfl
theorem w_im_Mo_refines : Cond.instanceMethod y_Mo_refines ∈ lw_G := lw_g6 169 rfl rfl
theorem w_cd_Mo_refines : Cond.code y_Mo_refines b_Mo_refines 8 none ∈ lw_G := lw_g6 170 rfl rfl
theorem w_ml_Mo_137 : Cond.methodLink R_Mo 137 y_Mo_sideOf ∈ lw_G := lw_g6 171 rfl rfl
theorem w_im_Mo_sideOf : Cond.instanceMethod y_Mo_sideOf ∈ lw_G := lw_g6 173 rfl rfl
theorem w_cd_Mo_sideOf : Cond.code y_Mo_sideOf b_Mo_sideOf 5 (some .int) ∈ lw_G := lw_g6 174 rfl rfl
theorem w_ml_La_88 : Cond.methodLink R_La 88 y_Mo_repeated ∈ lw_G := lw_g6 175 rfl rfl
theorem w_im_Mo_repeated : Cond.instanceMethod y_Mo_repeated ∈ lw_G := lw_g6 176 rfl rfl
theorem w_se_Mo_repeated : Cond.selects R_Mo y_Mo_repeated y_Mo_repeated ∈ lw_G := lw_g6 177 rfl rfl
theorem w_cd_Mo_repeated : Cond.code y_Mo_repeated b_Mo_repeated 2 (some .int) ∈ lw_G := lw_g6 178 rfl rfl
theorem w_ml_La_94 : Cond.methodLink R_La 94 y_Mo_sign ∈ lw_G := lw_g6 179 rfl rfl
theorem w_im_Mo_sign : Cond.instanceMethod y_Mo_sign ∈ lw_G := lw_g6 180 rfl rfl
theorem w_se_Mo_sign : Cond.selects R_Mo y_Mo_sign y_Mo_sign ∈ lw_G := lw_g6 181 rfl rfl
theorem w_cd_Mo_sign : Cond.code y_Mo_sign b_Mo_sign 5 (some .int) ∈ lw_G := lw_g6 182 rfl rfl
theorem w_kl_Mo_157 : Cond.constantLong R_Mo 157 (62 : Int64) ∈ lw_G := lw_g6 183 rfl rfl
theorem w_ml_La_98 : Cond.methodLink R_La 98 y_Mo_between ∈ lw_G := lw_g6 184 rfl rfl
theorem w_im_Mo_between : Cond.instanceMethod y_Mo_between ∈ lw_G := lw_g6 185 rfl rfl
theorem w_se_Mo_between : Cond.selects R_Mo y_Mo_between y_Mo_between ∈ lw_G := lw_g6 186 rfl rfl
theorem w_cd_Mo_between : Cond.code y_Mo_between b_Mo_between 10 (some .int) ∈ lw_G := lw_g6 187 rfl rfl
theorem w_ml_Mo_168 : Cond.methodLink R_Mo 168 y_Mo_sideOfRoot ∈ lw_G := lw_g6 188 rfl rfl
theorem w_im_Mo_sideOfRoot : Cond.instanceMethod y_Mo_sideOfRoot ∈ lw_G := lw_g6 190 rfl rfl
theorem w_cd_Mo_sideOfRoot : Cond.code y_Mo_sideOfRoot b_Mo_sideOfRoot 8 (some .int) ∈ lw_G := lw_g6 191 rfl rfl
theorem w_ml_Mo_159 : Cond.methodLink R_Mo 159 y_Mo_refinesTo ∈ lw_G := lw_g6 192 rfl rfl
theorem w_im_Mo_refinesTo : Cond.instanceMethod y_Mo_refinesTo ∈ lw_G := lw_g6 194 rfl rfl
theorem w_cd_Mo_refinesTo : Cond.code y_Mo_refinesTo b_Mo_refinesTo 4 none ∈ lw_G := lw_g6 195 rfl rfl
theorem w_ml_Mo_162 : Cond.methodLink R_Mo 162 y_Mo_lowOf ∈ lw_G := lw_g6 196 rfl rfl
theorem w_im_Mo_lowOf : Cond.instanceMethod y_Mo_lowOf ∈ lw_G := lw_g6 198 rfl rfl
theorem w_cd_Mo_lowOf : Cond.code y_Mo_lowOf b_Mo_lowOf 4 (some .int) ∈ lw_G := lw_g6 199 rfl rfl
theorem w_ml_Mo_165 : Cond.methodLink R_Mo 165 y_Mo_compareRows ∈ lw_G := lw_g6 200 rfl rfl
theorem w_im_Mo_compareRows : Cond.instanceMethod y_Mo_compareRows ∈ lw_G := lw_g6 202 rfl rfl
theorem w_cd_Mo_compareRows : Cond.code y_Mo_compareRows b_Mo_compareRows 3 (some .int) ∈ lw_G := lw_g6 203 rfl rfl
theorem w_ml_La_102 : Cond.methodLink R_La 102 y_Mo_multiple ∈ lw_G := lw_g6 204 rfl rfl
theorem w_im_Mo_multiple : Cond.instanceMethod y_Mo_multiple ∈ lw_G := lw_g6 205 rfl rfl
theorem w_se_Mo_multiple : Cond.selects R_Mo y_Mo_multiple y_Mo_multiple ∈ lw_G := lw_g6 206 rfl rfl
theorem w_cd_Mo_multiple : Cond.code y_Mo_multiple b_Mo_multiple 5 (some .int) ∈ lw_G := lw_g6 207 rfl rfl
theorem w_ml_Mo_172 : Cond.methodLink R_Mo 172 y_Mo_isZeroAt ∈ lw_G := lw_g6 208 rfl rfl
theorem w_im_Mo_isZeroAt : Cond.instanceMethod y_Mo_isZeroAt ∈ lw_G := lw_g6 210 rfl rfl
theorem w_cd_Mo_isZeroAt : Cond.code y_Mo_isZeroAt b_Mo_isZeroAt 7 (some .boolean) ∈ lw_G := lw_g6 211 rfl rfl
theorem w_ml_La_106 : Cond.methodLink R_La 106 y_Mo_side ∈ lw_G := lw_g6 212 rfl rfl
theorem w_im_Mo_side : Cond.instanceMethod y_Mo_side ∈ lw_G := lw_g6 213 rfl rfl
theorem w_se_Mo_side : Cond.selects R_Mo y_Mo_side y_Mo_side ∈ lw_G := lw_g6 214 rfl rfl
theorem w_cd_Mo_side : Cond.code y_Mo_side b_Mo_side 6 (some .int) ∈ lw_G := lw_g6 215 rfl rfl
theorem w_ml_La_110 : Cond.methodLink R_La 110 y_Mo_floor ∈ lw_G := lw_g6 216 rfl rfl
theorem w_im_Mo_floor : Cond.instanceMethod y_Mo_floor ∈ lw_G := lw_g6 217 rfl rfl
theorem w_se_Mo_floor : Cond.selects R_Mo y_Mo_floor y_Mo_floor ∈ lw_G := lw_g6 218 rfl rfl
theorem w_cd_Mo_floor : Cond.code y_Mo_floor b_Mo_floor 7 (some .int) ∈ lw_G := lw_g6 219 rfl rfl
theorem w_kl_Mo_178 : Cond.constantLong R_Mo 178 (90 : Int64) ∈ lw_G := lw_g6 220 rfl rfl
theorem w_kl_Mo_180 : Cond.constantLong R_Mo 180 (300 : Int64) ∈ lw_G := lw_g6 221 rfl rfl
theorem w_ml_Mo_182 : Cond.methodLink R_Mo 182 y_Mo_tens ∈ lw_G := lw_g6 222 rfl rfl
theorem w_im_Mo_tens : Cond.instanceMethod y_Mo_tens ∈ lw_G := lw_g6 224 rfl rfl
theorem w_cd_Mo_tens : Cond.code y_Mo_tens b_Mo_tens 9 none ∈ lw_G := lw_g6 225 rfl rfl
theorem w_kl_Mo_193 : Cond.constantLong R_Mo 193 (10 : Int64) ∈ lw_G := lw_g6 226 rfl rfl
theorem w_ml_Mo_186 : Cond.methodLink R_Mo 186 y_Mo_falls ∈ lw_G := lw_g6 227 rfl rfl
theorem w_im_Mo_falls : Cond.instanceMethod y_Mo_falls ∈ lw_G := lw_g6 229 rfl rfl
theorem w_cd_Mo_falls : Cond.code y_Mo_falls b_Mo_falls 6 none ∈ lw_G := lw_g6 230 rfl rfl
theorem w_kl_Mo_176 : Cond.constantLong R_Mo 176 (-1 : Int64) ∈ lw_G := lw_g6 231 rfl rfl
theorem w_ml_Mo_195 : Cond.methodLink R_Mo 195 y_Mo_signAtRatio ∈ lw_G := lw_g6 232 rfl rfl
theorem w_im_Mo_signAtRatio : Cond.instanceMethod y_Mo_signAtRatio ∈ lw_G := lw_g6 234 rfl rfl
theorem w_cd_Mo_signAtRatio : Cond.code y_Mo_signAtRatio b_Mo_signAtRatio 6 (some .int) ∈ lw_G := lw_g6 235 rfl rfl
theorem w_ml_Mo_189 : Cond.methodLink R_Mo 189 y_Mo_writes ∈ lw_G := lw_g6 236 rfl rfl
theorem w_im_Mo_writes : Cond.instanceMethod y_Mo_writes ∈ lw_G := lw_g6 238 rfl rfl
theorem w_cd_Mo_writes : Cond.code y_Mo_writes b_Mo_writes 7 (some .int) ∈ lw_G := lw_g6 239 rfl rfl
theorem w_ml_La_113 : Cond.methodLink R_La 113 y_Mo_apart ∈ lw_G := lw_g7 0 rfl rfl
theorem w_im_Mo_apart : Cond.instanceMethod y_Mo_apart ∈ lw_G := lw_g7 1 rfl rfl
theorem w_se_Mo_apart : Cond.selects R_Mo y_Mo_apart y_Mo_apart ∈ lw_G := lw_g7 2 rfl rfl
theorem w_cd_Mo_apart : Cond.code y_Mo_apart b_Mo_apart 5 (some .int) ∈ lw_G := lw_g7 3 rfl rfl
theorem w_ml_Mo_201 : Cond.methodLink R_Mo 201 y_Mo_isAlike ∈ lw_G := lw_g7 4 rfl rfl
theorem w_im_Mo_isAlike : Cond.instanceMethod y_Mo_isAlike ∈ lw_G := lw_g7 6 rfl rfl
theorem w_cd_Mo_isAlike : Cond.code y_Mo_isAlike b_Mo_isAlike 5 (some .boolean) ∈ lw_G := lw_g7 7 rfl rfl
theorem w_ml_La_116 : Cond.methodLink R_La 116 y_Mo_order ∈ lw_G := lw_g7 8 rfl rfl
theorem w_im_Mo_order : Cond.instanceMethod y_Mo_order ∈ lw_G := lw_g7 9 rfl rfl
theorem w_se_Mo_order : Cond.selects R_Mo y_Mo_order y_Mo_order ∈ lw_G := lw_g7 10 rfl rfl
theorem w_cd_Mo_order : Cond.code y_Mo_order b_Mo_order 6 (some .int) ∈ lw_G := lw_g7 11 rfl rfl
theorem w_ml_Mo_204 : Cond.methodLink R_Mo 204 y_Mo_lacks ∈ lw_G := lw_g7 12 rfl rfl
theorem w_im_Mo_lacks : Cond.instanceMethod y_Mo_lacks ∈ lw_G := lw_g7 14 rfl rfl
theorem w_cd_Mo_lacks : Cond.code y_Mo_lacks b_Mo_lacks 2 (some .boolean) ∈ lw_G := lw_g7 15 rfl rfl
theorem w_ml_La_119 : Cond.methodLink R_La 119 y_Mo_signAt ∈ lw_G := lw_g7 16 rfl rfl
theorem w_im_Mo_signAt : Cond.instanceMethod y_Mo_signAt ∈ lw_G := lw_g7 17 rfl rfl
theorem w_se_Mo_signAt : Cond.selects R_Mo y_Mo_signAt y_Mo_signAt ∈ lw_G := lw_g7 18 rfl rfl
theorem w_cd_Mo_signAt : Cond.code y_Mo_signAt b_Mo_signAt 7 (some .int) ∈ lw_G := lw_g7 19 rfl rfl
theorem w_ml_La_123 : Cond.methodLink R_La 123 y_Mo_common ∈ lw_G := lw_g7 20 rfl rfl
theorem w_im_Mo_common : Cond.instanceMethod y_Mo_common ∈ lw_G := lw_g7 21 rfl rfl
theorem w_se_Mo_common : Cond.selects R_Mo y_Mo_common y_Mo_common ∈ lw_G := lw_g7 22 rfl rfl
theorem w_cd_Mo_common : Cond.code y_Mo_common b_Mo_common 3 (some .int) ∈ lw_G := lw_g7 23 rfl rfl
theorem w_ml_La_126 : Cond.methodLink R_La 126 y_Mo_out ∈ lw_G := lw_g7 24 rfl rfl
theorem w_im_Mo_out : Cond.instanceMethod y_Mo_out ∈ lw_G := lw_g7 25 rfl rfl
theorem w_se_Mo_out : Cond.selects R_Mo y_Mo_out y_Mo_out ∈ lw_G := lw_g7 26 rfl rfl
theorem w_cd_Mo_out : Cond.code y_Mo_out b_Mo_out 5 (some .long) ∈ lw_G := lw_g7 27 rfl rfl
theorem w_kl_La_89 : Cond.constantLong R_La 89 (4294967295 : Int64) ∈ lw_G := lw_g7 28 rfl rfl
theorem w_ac_long : Cond.arrayClass .long ∈ lw_G := lw_g7 29 rfl rfl
theorem w_se_D_checkPolynomial : Cond.selects R_D y_D_checkPolynomial y_D_checkPolynomial ∈ lw_G := lw_sl 0 rfl rfl
theorem w_se_D_some : Cond.selects R_D y_D_some y_D_some ∈ lw_G := lw_sl 2 rfl rfl
theorem w_se_Ch_leaveRest : Cond.selects R_Ch y_Ch_leaveRest y_Ch_leaveRest ∈ lw_G := lw_sl 3 rfl rfl
theorem w_se_Nu_addMagnitude : Cond.selects R_Nu y_Nu_addMagnitude y_Nu_addMagnitude ∈ lw_G := lw_sl 4 rfl rfl
theorem w_se_Nu_subtractMagnitude : Cond.selects R_Nu y_Nu_subtractMagnitude y_Nu_subtractMagnitude ∈ lw_G := lw_sl 5 rfl rfl
theorem w_se_Ch_keepRest : Cond.selects R_Ch y_Ch_keepRest y_Ch_keepRest ∈ lw_G := lw_sl 6 rfl rfl
theorem w_se_Di_takeDigit : Cond.selects R_Di y_Di_takeDigit y_Di_takeDigit ∈ lw_G := lw_sl 7 rfl rfl
theorem w_se_Di_subtractDigit : Cond.selects R_Di y_Di_subtractDigit y_Di_subtractDigit ∈ lw_G := lw_sl 8 rfl rfl
theorem w_se_Di_addBack : Cond.selects R_Di y_Di_addBack y_Di_addBack ∈ lw_G := lw_sl 9 rfl rfl
theorem w_se_Ch_raiseHeight : Cond.selects R_Ch y_Ch_raiseHeight y_Ch_raiseHeight ∈ lw_G := lw_sl 10 rfl rfl
theorem w_se_He_reachOfRoots : Cond.selects R_He y_He_reachOfRoots y_He_reachOfRoots ∈ lw_G := lw_sl 11 rfl rfl
theorem w_se_D_checkExponent : Cond.selects R_D y_D_checkExponent y_D_checkExponent ∈ lw_G := lw_sl 12 rfl rfl
theorem w_se_D_checkRoot : Cond.selects R_D y_D_checkRoot y_D_checkRoot ∈ lw_G := lw_sl 13 rfl rfl
theorem w_se_Qu_multiply : Cond.selects R_Qu y_Qu_multiply y_Qu_multiply ∈ lw_G := lw_sl 14 rfl rfl
theorem w_se_He_halveAtMiddle : Cond.selects R_He y_He_halveAtMiddle y_He_halveAtMiddle ∈ lw_G := lw_sl 15 rfl rfl
theorem w_se_He_leap : Cond.selects R_He y_He_leap y_He_leap ∈ lw_G := lw_sl 16 rfl rfl
theorem w_se_He_guessOnLine : Cond.selects R_He y_He_guessOnLine y_He_guessOnLine ∈ lw_G := lw_sl 17 rfl rfl
theorem w_se_Mo_fails : Cond.selects R_Mo y_Mo_fails y_Mo_fails ∈ lw_G := lw_sl 18 rfl rfl
theorem w_se_Mo_set : Cond.selects R_Mo y_Mo_set y_Mo_set ∈ lw_G := lw_sl 19 rfl rfl
theorem w_se_Mo_trimPoly : Cond.selects R_Mo y_Mo_trimPoly y_Mo_trimPoly ∈ lw_G := lw_sl 20 rfl rfl
theorem w_se_Mo_stops : Cond.selects R_Mo y_Mo_stops y_Mo_stops ∈ lw_G := lw_sl 21 rfl rfl
theorem w_se_Mo_isolates : Cond.selects R_Mo y_Mo_isolates y_Mo_isolates ∈ lw_G := lw_sl 22 rfl rfl
theorem w_se_Mo_part : Cond.selects R_Mo y_Mo_part y_Mo_part ∈ lw_G := lw_sl 23 rfl rfl
theorem w_se_Mo_derive : Cond.selects R_Mo y_Mo_derive y_Mo_derive ∈ lw_G := lw_sl 24 rfl rfl
theorem w_se_Mo_product : Cond.selects R_Mo y_Mo_product y_Mo_product ∈ lw_G := lw_sl 25 rfl rfl
theorem w_se_Mo_at : Cond.selects R_Mo y_Mo_at y_Mo_at ∈ lw_G := lw_sl 26 rfl rfl
theorem w_se_Mo_takes : Cond.selects R_Mo y_Mo_takes y_Mo_takes ∈ lw_G := lw_sl 27 rfl rfl
theorem w_se_Mo_trim : Cond.selects R_Mo y_Mo_trim y_Mo_trim ∈ lw_G := lw_sl 28 rfl rfl
theorem w_se_Mo_copyPoly : Cond.selects R_Mo y_Mo_copyPoly y_Mo_copyPoly ∈ lw_G := lw_sl 29 rfl rfl
theorem w_se_Mo_copy : Cond.selects R_Mo y_Mo_copy y_Mo_copy ∈ lw_G := lw_sl 30 rfl rfl
theorem w_se_Mo_primitive : Cond.selects R_Mo y_Mo_primitive y_Mo_primitive ∈ lw_G := lw_sl 31 rfl rfl
theorem w_se_Mo_quotient : Cond.selects R_Mo y_Mo_quotient y_Mo_quotient ∈ lw_G := lw_sl 32 rfl rfl
theorem w_se_Mo_against : Cond.selects R_Mo y_Mo_against y_Mo_against ∈ lw_G := lw_sl 33 rfl rfl
theorem w_se_Mo_guess : Cond.selects R_Mo y_Mo_guess y_Mo_guess ∈ lw_G := lw_sl 34 rfl rfl
theorem w_se_Mo_lessens : Cond.selects R_Mo y_Mo_lessens y_Mo_lessens ∈ lw_G := lw_sl 35 rfl rfl
theorem w_se_Mo_divisor : Cond.selects R_Mo y_Mo_divisor y_Mo_divisor ∈ lw_G := lw_sl 36 rfl rfl
theorem w_se_Mo_remainder : Cond.selects R_Mo y_Mo_remainder y_Mo_remainder ∈ lw_G := lw_sl 37 rfl rfl
theorem w_se_Mo_sum : Cond.selects R_Mo y_Mo_sum y_Mo_sum ∈ lw_G := lw_sl 38 rfl rfl
theorem w_se_Mo_exactly : Cond.selects R_Mo y_Mo_exactly y_Mo_exactly ∈ lw_G := lw_sl 39 rfl rfl
theorem w_se_Mo_changes : Cond.selects R_Mo y_Mo_changes y_Mo_changes ∈ lw_G := lw_sl 40 rfl rfl
theorem w_se_Mo_lower : Cond.selects R_Mo y_Mo_lower y_Mo_lower ∈ lw_G := lw_sl 41 rfl rfl
theorem w_se_Mo_lift : Cond.selects R_Mo y_Mo_lift y_Mo_lift ∈ lw_G := lw_sl 42 rfl rfl
theorem w_se_Mo_keep : Cond.selects R_Mo y_Mo_keep y_Mo_keep ∈ lw_G := lw_sl 43 rfl rfl
theorem w_se_Mo_cell : Cond.selects R_Mo y_Mo_cell y_Mo_cell ∈ lw_G := lw_sl 44 rfl rfl
theorem w_se_Mo_parts : Cond.selects R_Mo y_Mo_parts y_Mo_parts ∈ lw_G := lw_sl 45 rfl rfl
theorem w_se_Mo_signOf : Cond.selects R_Mo y_Mo_signOf y_Mo_signOf ∈ lw_G := lw_sl 46 rfl rfl
theorem w_se_Mo_refines : Cond.selects R_Mo y_Mo_refines y_Mo_refines ∈ lw_G := lw_sl 47 rfl rfl
theorem w_se_Mo_sideOf : Cond.selects R_Mo y_Mo_sideOf y_Mo_sideOf ∈ lw_G := lw_sl 48 rfl rfl
theorem w_se_Mo_sideOfRoot : Cond.selects R_Mo y_Mo_sideOfRoot y_Mo_sideOfRoot ∈ lw_G := lw_sl 49 rfl rfl
theorem w_se_Mo_refinesTo : Cond.selects R_Mo y_Mo_refinesTo y_Mo_refinesTo ∈ lw_G := lw_sl 50 rfl rfl
theorem w_se_Mo_lowOf : Cond.selects R_Mo y_Mo_lowOf y_Mo_lowOf ∈ lw_G := lw_sl 51 rfl rfl
theorem w_se_Mo_compareRows : Cond.selects R_Mo y_Mo_compareRows y_Mo_compareRows ∈ lw_G := lw_sl 52 rfl rfl
theorem w_se_Mo_isZeroAt : Cond.selects R_Mo y_Mo_isZeroAt y_Mo_isZeroAt ∈ lw_G := lw_sl 53 rfl rfl
theorem w_se_Mo_tens : Cond.selects R_Mo y_Mo_tens y_Mo_tens ∈ lw_G := lw_sl 54 rfl rfl
theorem w_se_Mo_falls : Cond.selects R_Mo y_Mo_falls y_Mo_falls ∈ lw_G := lw_sl 55 rfl rfl
theorem w_se_Mo_signAtRatio : Cond.selects R_Mo y_Mo_signAtRatio y_Mo_signAtRatio ∈ lw_G := lw_sl 56 rfl rfl
theorem w_se_Mo_writes : Cond.selects R_Mo y_Mo_writes y_Mo_writes ∈ lw_G := lw_sl 57 rfl rfl
theorem w_se_Mo_isAlike : Cond.selects R_Mo y_Mo_isAlike y_Mo_isAlike ∈ lw_G := lw_sl 58 rfl rfl
theorem w_se_Mo_lacks : Cond.selects R_Mo y_Mo_lacks y_Mo_lacks ∈ lw_G := lw_sl 59 rfl rfl
