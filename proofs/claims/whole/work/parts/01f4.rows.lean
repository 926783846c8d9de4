theorem gi_c {big ws : List Cond} (k : Nat) (h1 : GoodIn big (ws.take k)) (h2 : GoodIn big (ws.drop k)) : GoodIn big ws := fun w hw => by
  rw [← List.take_append_drop k ws] at hw
  rcases List.mem_append.mp hw with h | h
  · exact h1 w h
  · exact h2 w h
set_option maxRecDepth 20000 in
theorem ggX13_runScript_X13_runs0_c0 : GoodIn wsX13_runScript (wsX13_runs0.take 60) := goodIn_r _ [115, 1, 43, 116, 117, 42, 86, 87, 9, 88, 118, 119, 120, 121, 122, 109, 5, 123, 124, 125, 126, 127, 75, 76, 77, 128, 129, 130, 131, 132, 133, 134, 135, 136, 137, 138, 139, 140, 141, 142, 143, 144, 111, 145, 146, 147, 148, 149, 150, 151, 152, 153, 154, 155, 156, 157, 158, 159, 160, 161] (by decide +kernel) (by decide +kernel)
set_option maxRecDepth 20000 in
theorem ggX13_runScript_X13_runs0_c1 : GoodIn wsX13_runScript ((wsX13_runs0.drop 60).take 60) := goodIn_r _ [162, 163, 164, 165, 166, 167, 168, 169, 170, 171, 172, 173, 174, 175, 176, 177, 178, 179, 180, 181, 182, 183, 184, 185, 186, 187, 188, 189, 190, 191, 192, 193, 194, 195, 196, 197, 198, 199, 200, 201, 202, 203, 204, 205, 206, 207, 208, 209, 210, 211, 212, 213, 214, 215, 216, 217, 218, 219, 220, 221] (by decide +kernel) (by decide +kernel)
set_option maxRecDepth 20000 in
theorem ggX13_runScript_X13_runs0_c2 : GoodIn wsX13_runScript (((wsX13_runs0.drop 60).drop 60).take 60) := goodIn_r _ [222, 223, 224, 225, 226, 227, 228, 229, 230, 231, 232, 233, 234, 235, 236, 237, 238, 239, 240, 241, 242, 243, 244, 245, 246, 247, 248, 249, 250, 251, 252, 253, 254, 255, 256, 257, 258, 259, 260, 261, 262, 263, 264, 265, 272, 273, 274, 275, 276, 277, 278, 279, 280, 281, 282, 283, 284, 285, 286, 287] (by decide +kernel) (by decide +kernel)
set_option maxRecDepth 20000 in
theorem ggX13_runScript_X13_runs0_c3 : GoodIn wsX13_runScript (((wsX13_runs0.drop 60).drop 60).drop 60) := goodIn_r _ [288, 289, 290, 291, 292, 293, 294, 295, 296, 297, 298, 299, 300, 301, 302, 303, 304, 305, 306, 307, 308, 309, 310, 311, 312, 313, 314, 315, 316, 317, 318, 319] (by decide +kernel) (by decide +kernel)
theorem ggX13_runScript_X13_runs0 : GoodIn wsX13_runScript wsX13_runs0 := gi_c 60 ggX13_runScript_X13_runs0_c0 (gi_c 60 ggX13_runScript_X13_runs0_c1 (gi_c 60 ggX13_runScript_X13_runs0_c2 ggX13_runScript_X13_runs0_c3))
