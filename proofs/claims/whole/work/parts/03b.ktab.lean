def kuIx : List (List Nat) := [[1137, 1139, 1141, 1143], [1055, 1057, 1059, 1061, 1063, 1065, 1067, 1069, 1071, 1073, 1075, 1077, 1079, 1081, 1083, 1085, 1087], [1217, 1219, 1221, 1223, 1225, 1227], [2002, 2004, 2006, 2008, 2010, 2012], [2072, 2074, 2076, 2078, 2080, 2082, 2084, 2086, 2088, 2090, 2092, 2094, 2096], [1192, 1194, 1196, 1198, 1200, 1202], [2031, 2033, 2035, 2037, 2039, 2041, 2043, 2045, 2047, 2049], [2107, 2109], [1161, 1163, 1165, 1167, 1169, 1171, 1173, 1175, 1177], [1100, 1102], [1116, 1118, 1120, 1122, 1124], [3126, 3128, 3130, 3132, 3134, 3136, 3138, 3140, 3142, 3144, 3146, 3148, 3150], [7041, 7043, 7045, 7047, 7049, 7051, 7053, 7055, 7057, 7059, 7061, 7063, 7065, 7067, 7069, 7071, 7073, 7075, 7077, 7079, 7081, 7083, 7085, 7087, 7089, 7091, 7093, 7095, 7097, 7099, 7101, 7103, 7105, 7107, 7109, 7111, 7113, 7115, 7117, 7119, 7121, 7123, 7125, 7127, 7129, 7131, 7133, 7135, 7137, 7139, 7141, 7143, 7145, 7147, 7149, 7151, 7153, 7155, 7157, 7159, 7161, 7163, 7165, 7167, 7169, 7171, 7173, 7175, 7177, 7179, 7181, 7183, 7185, 7187, 7189, 7191, 7193, 7195, 7197, 7199, 7201, 7203, 7205, 7207]]
def kthrTab : List (Nat × String × Nat) := [(175, "java/lang/IllegalArgumentException", 7), (215, "java/util/NoSuchElementException", 13)]
def kchk (c : Nat) : List Cond := match c with
  | 0 => k2_sels lw_privs
  | 1 => tables_1_1
  | 2 => tables_1_2
  | 3 => tables_1_3
  | 4 => tables_1_4
  | 5 => tables_1_5
  | 6 => tables_1_6
  | 7 => tables_1_7
  | 8 => tables_1_8
  | 9 => tables_1_9
  | _ => []
theorem kchk_in {c : Nat} {w : Cond} (h : w ∈ kchk c) : w ∈ lw_tbl := by
  unfold lw_tbl
  match c, h with
  | 0, h => exact List.mem_append_left _ h
  | 1, h => exact List.mem_append_right _ (show w ∈ tables_1 from List.mem_append_left _ h)
  | 2, h => exact List.mem_append_right _ (show w ∈ tables_1 from List.mem_append_right _ (List.mem_append_left _ h))
  | 3, h => exact List.mem_append_right _ (show w ∈ tables_1 from List.mem_append_right _ (List.mem_append_right _ (List.mem_append_left _ h)))
  | 4, h => exact List.mem_append_right _ (show w ∈ tables_1 from List.mem_append_right _ (List.mem_append_right _ (List.mem_append_right _ (List.mem_append_left _ h))))
  | 5, h => exact List.mem_append_right _ (show w ∈ tables_1 from List.mem_append_right _ (List.mem_append_right _ (List.mem_append_right _ (List.mem_append_right _ (List.mem_append_left _ h)))))
  | 6, h => exact List.mem_append_right _ (show w ∈ tables_1 from List.mem_append_right _ (List.mem_append_right _ (List.mem_append_right _ (List.mem_append_right _ (List.mem_append_right _ (List.mem_append_left _ h))))))
  | 7, h => exact List.mem_append_right _ (show w ∈ tables_1 from List.mem_append_right _ (List.mem_append_right _ (List.mem_append_right _ (List.mem_append_right _ (List.mem_append_right _ (List.mem_append_right _ (List.mem_append_left _ h)))))))
  | 8, h => exact List.mem_append_right _ (show w ∈ tables_1 from List.mem_append_right _ (List.mem_append_right _ (List.mem_append_right _ (List.mem_append_right _ (List.mem_append_right _ (List.mem_append_right _ (List.mem_append_right _ (List.mem_append_left _ h))))))))
  | 9, h => exact List.mem_append_right _ (show w ∈ tables_1 from List.mem_append_right _ (List.mem_append_right _ (List.mem_append_right _ (List.mem_append_right _ (List.mem_append_right _ (List.mem_append_right _ (List.mem_append_right _ (List.mem_append_right _ (h)))))))))
  | n + 10, h => exact absurd h List.not_mem_nil
def knth (n : Nat) : List Cond → Option Cond := Nat.rec (fun l => l.head?) (fun _ ih l => List.casesOn l none (fun _ t => ih t)) n
theorem knth_mem : ∀ (n : Nat) (l : List Cond) (w : Cond), knth n l = some w → w ∈ l
  | 0, [], w, h => by cases h
  | 0, a :: l, w, h => by cases h; exact List.mem_cons_self
  | n + 1, [], w, h => by cases h
  | n + 1, a :: l, w, h => List.mem_cons_of_mem _ (knth_mem n l w h)
def kat (i : Nat) : Option Cond := knth (i % 1000) (kchk (i / 1000))
theorem kat_mem {i : Nat} {w : Cond} (h : kat i = some w) : w ∈ lw_tbl := kchk_in (knth_mem _ _ _ h)
