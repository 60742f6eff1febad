def kuIx : List (List Nat) := [[1137, 1139, 1141, 1143], [1055, 1057, 1059, 1061, 1063, 1065, 1067, 1069, 1071, 1073, 1075, 1077, 1079, 1081, 1083, 1085, 1087], [1217, 1219, 1221, 1223, 1225, 1227], [2002, 2004, 2006, 2008, 2010, 2012], [2072, 2074, 2076, 2078, 2080, 2082, 2084, 2086, 2088, 2090, 2092, 2094, 2096], [1192, 1194, 1196, 1198, 1200, 1202], [2031, 2033, 2035, 2037, 2039, 2041, 2043, 2045, 2047, 2049], [2107, 2109], [1161, 1163, 1165, 1167, 1169, 1171, 1173, 1175, 1177], [1100, 1102], [1116, 1118, 1120, 1122, 1124], [3129, 3131, 3133, 3135, 3137, 3139, 3141, 3143, 3145, 3147, 3149, 3151, 3153], [7030, 7032, 7034, 7036, 7038, 7040, 7042, 7044, 7046, 7048, 7050, 7052, 7054, 7056, 7058, 7060, 7062, 7064, 7066, 7068, 7070, 7072, 7074, 7076, 7078, 7080, 7082, 7084, 7086, 7088, 7090, 7092, 7094, 7096, 7098, 7100, 7102, 7104, 7106, 7108, 7110, 7112, 7114, 7116, 7118, 7120, 7122, 7124, 7126, 7128, 7130, 7132, 7134, 7136, 7138, 7140, 7142, 7144, 7146, 7148, 7150, 7152, 7154, 7156, 7158, 7160, 7162, 7164, 7166, 7168, 7170, 7172, 7174, 7176, 7178, 7180, 7182, 7184, 7186, 7188, 7190, 7192, 7194, 7196]]
def kthrTab : List (Nat × String × Nat) := [(175, "java/lang/IllegalArgumentException", 7), (215, "java/util/NoSuchElementException", 13)]
def kchk (c : Nat) : List Cond := match c with
  | 0 => k2_sels lw_privs
  | 1 => tables_1_1
  | 2 => tables_1_2
  | 3 => tables_1_3
  | 4 => tables_1_4
  | 5 => tables_1_5
  | 6 => tables_1_6
  | 7 => tables_1_7
  | 8 => tables_1_8
  | 9 => tables_1_9
  | _ => []
theorem kchk_in {c : Nat} {w : Cond} (h : w ∈ kchk c) : w ∈ lw_tbl := by
  unfold lw_tbl
  match c, h with
  | 0, h => exact List.mem_append_left _ h
  | 1, h => exact List.mem_append_right _ (show w ∈ tables_1 from List.mem_append_left _ h)
  | 2, h => exact List.mem_append_right _ (show w ∈ tables_1 from List.mem_append_right _ (List.mem_append_left _ h))
  | 3, h => exact List.mem_append_right _ (show w ∈ tables_1 from List.mem_append_right _ (List.mem_append_right _ (List.mem_append_left _ h)))
  | 4, h => exact List.mem_append_right _ (show w ∈ tables_1 from List.mem_append_right _ (List.mem_append_right _ (List.mem_append_right _ (List.mem_append_left _ h))))
  | 5, h => exact List.mem_append_right _ (show w ∈ tables_1 from List.mem_append_right _ (List.mem_append_right _ (List.mem_append_right _ (List.mem_append_right _ (List.mem_append_left _ h)))))
  | 6, h => exact List.mem_append_right _ (show w ∈ tables_1 from List.mem_append_right _ (List.mem_append_right _ (List.mem_append_right _ (List.mem_append_right _ (List.mem_append_right _ (List.mem_append_left _ h))))))
  | 7, h => exact List.mem_append_right _ (show w ∈ tables_1 from List.mem_append_right _ (List.mem_append_right _ (List.mem_append_right _ (List.mem_append_right _ (List.mem_append_right _ (List.mem_append_right _ (List.mem_append_left _ h)))))))
  | 8, h => exact List.mem_append_right _ (show w ∈ tables_1 from List.mem_append_right _ (List.mem_append_right _ (List.mem_append_right _ (List.mem_append_right _ (List.mem_append_right _ (List.mem_append_right _ (List.mem_append_right _ (List.mem_append_left _ h))))))))
  | 9, h => exact List.mem_append_right _ (show w ∈ tables_1 from List.mem_append_right _ (List.mem_append_right _ (List.mem_append_right _ (List.mem_append_right _ (List.mem_append_right _ (List.mem_append_right _ (List.mem_append_right _ (List.mem_append_right _ (h)))))))))
  | n + 10, h => exact absurd h List.not_mem_nil
def knth (n : Nat) : List Cond → Option Cond := Nat.rec (fun l => l.head?) (fun _ ih l => List.casesOn l none (fun _ t => ih t)) n
theorem knth_mem : ∀ (n : Nat) (l : List Cond) (w : Cond), knth n l = some w → w ∈ l
  | 0, [], w, h => by cases h
  | 0, a :: l, w, h => by cases h; exact List.mem_cons_self
  | n + 1, [], w, h => by cases h
  | n + 1, a :: l, w, h => List.mem_cons_of_mem _ (knth_mem n l w h)
def kat (i : Nat) : Option Cond := knth (i % 1000) (kchk (i / 1000))
theorem kat_mem {i : Nat} {w : Cond} (h : kat i = some w) : w ∈ lw_tbl := kchk_in (knth_mem _ _ _ h)
