def kdXl : List Nat := [0, 0, 0, 0, 0, 0, 0, 0, 0, 0, 0, 0, 0, 0, 0, 0, 0, 0, 0, 0, 0, 0, 0, 0, 0, 0, 0, 0, 0, 0, 0, 0, 0, 0, 0, 3, 2, 5, 0, 0, 0, 0, 0, 0, 0, 0, 0, 0, 0, 0, 0, 0, 0, 0, 0, 0, 0, 0, 0, 0, 0, 3, 5, 0, 0, 0, 5, 0, 0, 0, 0, 5, 0, 0, 0, 0, 0, 0, 0, 0, 0, 0, 0, 5, 0, 0, 0, 0, 5, 0, 0, 0, 0, 5, 0, 0, 0, 0, 5, 0, 0, 0, 0, 5, 0, 0, 0, 0, 5, 0, 0, 0, 0, 5, 0, 0, 0, 0, 5, 0, 0, 0, 0, 5, 0, 0, 0, 0, 5, 0, 0, 0, 0, 5, 0, 0, 0, 0, 5, 0, 0, 0, 0, 5, 0, 0, 0, 0, 5, 0, 0, 0, 0, 5, 0, 0, 0, 0, 5, 0, 0, 0, 0, 5, 4, 0, 0, 0, 0, 0, 0, 0, 0, 0, 0, 5, 2, 0, 0, 5, 0, 0, 0, 0, 0, 0, 0, 0, 0, 0, 5, 0, 0, 0, 0, 5, 0, 0, 0, 0, 5, 5, 0, 0, 0, 0, 0, 0, 0, 5, 0, 0, 0, 0, 5, 5]
def lnXl : List Nat := [4, 4, 4, 4, 4, 4, 4, 4, 4, 8, 80, 4, 4, 4, 4, 4, 4, 4, 4, 4, 4, 4, 4, 4, 4, 4, 4, 4, 4, 4, 4, 4, 4, 4, 4, 24, 400, 0, 10, 10, 20, 10, 10, 10, 10, 10, 10, 10, 10, 10, 10, 10, 10, 10, 10, 10, 10, 10, 10, 10, 10, 16, 0, 4, 4, 4, 0, 10, 10, 10, 10, 0, 10, 10, 10, 10, 10, 10, 10, 10, 10, 10, 4, 0, 10, 10, 10, 10, 0, 10, 10, 10, 10, 0, 10, 10, 10, 10, 0, 10, 10, 10, 10, 0, 10, 10, 10, 10, 0, 10, 10, 10, 10, 0, 10, 10, 10, 10, 0, 10, 10, 10, 10, 0, 10, 10, 10, 10, 0, 10, 10, 10, 10, 0, 10, 10, 10, 10, 0, 10, 10, 10, 10, 0, 10, 10, 10, 10, 0, 10, 10, 10, 10, 0, 10, 10, 10, 10, 0, 10, 10, 10, 10, 0, 16, 4, 10, 10, 10, 10, 10, 10, 10, 10, 10, 0, 512, 80, 8, 0, 8, 4, 4, 4, 4, 4, 10, 10, 10, 10, 0, 10, 10, 10, 10, 0, 10, 10, 10, 10, 0, 0, 10, 10, 8, 10, 10, 10, 10, 0, 10, 10, 10, 10, 0, 0]
def obXl : List (Nat × List (Nat ⊕ Nat)) := [(3, []), (3, []), (3, []), (3, []), (3, []), (3, []), (3, []), (3, []), (3, []), (3, []), (3, []), (3, []), (3, []), (3, []), (3, []), (3, []), (3, []), (3, []), (3, []), (3, []), (3, []), (3, []), (3, []), (3, []), (3, []), (3, []), (3, []), (3, []), (3, []), (3, []), (3, []), (3, []), (3, []), (3, []), (3, []), (3, []), (3, []), (7, [.inl 36, .inr 4]), (3, []), (3, []), (3, []), (3, []), (3, []), (3, []), (3, []), (3, []), (3, []), (3, []), (3, []), (3, []), (3, []), (3, []), (3, []), (3, []), (3, []), (3, []), (3, []), (3, []), (3, []), (3, []), (3, []), (3, []), (1, [.inl 38, .inl 39, .inl 40, .inl 41, .inl 42, .inl 43, .inl 44, .inl 61]), (3, []), (3, []), (3, []), (4, [.inl 63, .inl 64, .inl 65]), (3, []), (3, []), (3, []), (3, []), (3, [.inl 67, .inl 68, .inl 69, .inl 70]), (3, []), (3, []), (3, []), (3, []), (3, []), (3, []), (3, []), (3, []), (3, []), (3, []), (3, []), (0, [.inl 71, .inl 62, .inl 72, .inl 73, .inl 74, .inl 75, .inl 76, .inl 77, .inl 78, .inl 79, .inl 80, .inl 81, .inl 82, .inl 164]), (3, []), (3, []), (3, []), (3, []), (3, [.inl 84, .inl 85, .inl 86, .inl 87]), (3, []), (3, []), (3, []), (3, []), (3, [.inl 89, .inl 90, .inl 91, .inl 92]), (3, []), (3, []), (3, []), (3, []), (3, [.inl 94, .inl 95, .inl 96, .inl 97]), (3, []), (3, []), (3, []), (3, []), (3, [.inl 99, .inl 100, .inl 101, .inl 102]), (3, []), (3, []), (3, []), (3, []), (3, [.inl 104, .inl 105, .inl 106, .inl 107]), (3, []), (3, []), (3, []), (3, []), (3, [.inl 109, .inl 110, .inl 111, .inl 112]), (3, []), (3, []), (3, []), (3, []), (3, [.inl 114, .inl 115, .inl 116, .inl 117]), (3, []), (3, []), (3, []), (3, []), (3, [.inl 119, .inl 120, .inl 121, .inl 122]), (3, []), (3, []), (3, []), (3, []), (3, [.inl 124, .inl 125, .inl 126, .inl 127]), (3, []), (3, []), (3, []), (3, []), (3, [.inl 129, .inl 130, .inl 131, .inl 132]), (3, []), (3, []), (3, []), (3, []), (3, [.inl 134, .inl 135, .inl 136, .inl 137]), (3, []), (3, []), (3, []), (3, []), (3, [.inl 139, .inl 140, .inl 141, .inl 142]), (3, []), (3, []), (3, []), (3, []), (3, [.inl 144, .inl 145, .inl 146, .inl 147]), (3, []), (3, []), (3, []), (3, []), (3, [.inl 149, .inl 150, .inl 151, .inl 152]), (3, []), (3, []), (3, []), (3, []), (3, [.inl 154, .inl 155, .inl 156, .inl 157]), (3, []), (3, []), (3, []), (3, []), (3, [.inl 159, .inl 160, .inl 161, .inl 162]), (3, []), (3, []), (3, []), (3, []), (3, []), (3, []), (3, []), (3, []), (3, []), (3, []), (3, []), (2, [.inl 62, .inl 165, .inl 166, .inl 167, .inl 168, .inl 169, .inl 170, .inl 171, .inl 172, .inl 173, .inl 174]), (3, []), (3, []), (3, []), (5, [.inl 176, .inr 5, .inl 177, .inl 178]), (3, []), (3, []), (3, []), (3, []), (3, []), (3, []), (3, []), (3, []), (3, []), (3, []), (3, [.inl 186, .inl 187, .inl 188, .inl 189]), (3, []), (3, []), (3, []), (3, []), (3, [.inl 191, .inl 192, .inl 193, .inl 194]), (3, []), (3, []), (3, []), (3, []), (3, [.inl 196, .inl 197, .inl 198, .inl 199]), (6, [.inl 83, .inl 66, .inl 179, .inl 180, .inl 181, .inl 182, .inl 183, .inl 184, .inl 185, .inl 190, .inl 195, .inl 200]), (3, []), (3, []), (3, []), (3, []), (3, []), (3, []), (3, []), (3, [.inl 205, .inl 206, .inl 207, .inl 208]), (3, []), (3, []), (3, []), (3, []), (3, [.inl 210, .inl 211, .inl 212, .inl 213]), (8, [.inl 35, .inl 37, .inr 0, .inr 1, .inr 2, .inr 3, .inl 62, .inl 66, .inl 83, .inl 175, .inl 179, .inl 201, .inl 202, .inl 203, .inl 204, .inl 209, .inl 214])]
def svXl : List (List Int64) := [[(-19), (-1), (-1), 9223372036854775807],
  [(-21), (-1), (-1), 9223372036854775807],
  [(-2), (-1), (-1), 1152921504606846975],
  [(-4256434742258392912), 3405592160176694392, 3120150775007532967, 3135389899092516619],
  [6346243789798364141, 1503914060200516822, 0, 1152921504606846976],
  [1, 0, 0, 0],
  [8496970652267935907, 31536524315187371, (-8302596497594521448), 5909686906226998899],
  [(-3938910931347188454), 7578651490590762930, (-4565275417906848676), 2407515759118799870],
  [7378697629483820632, 7378697629483820646, 7378697629483820646, 7378697629483820646],
  [7640891576956012808, (-4942790177534073029), 4354685564936845355, (-6534734903238641935), 5840696475078001361, (-7276294671716946913), 2270897969802886507, 6620516959819538809],
  [4794697086780616226, 8158064640168781261, (-5349999486874862801), (-1606136188198331460), 4131703408338449720, 6480981068601479193, (-7908458776815382629), (-6116909921290321640), (-2880145864133508542), 1334009975649890238, 2608012711638119052, 6128411473006802146, 8268148722764581231, (-9160688886553864527), (-7215885187991268811), (-4495734319001033068), (-1973867731355612462), (-1171420211273849373), 1135362057144423861, 2597628984639134821, 3308224258029322869, 5365058923640841347, 6679025012923562964, 8573033837759648693, (-7476448914759557205), (-6327057829258317296), (-5763719355590565569), (-4658551843659510044), (-4116276920077217854), (-3051310485924567259), 489312712824947311, 1452737877330783856, 2861767655752347644, 3322285676063803686, 5560940570517711597, 5996557281743188959, 7280758554555802590, 8532644243296465576, (-9096487096722542874), (-7894198246740708037), (-6719396339535248540), (-6333637450476146687), (-4446306890439682159), (-4076793802049405392), (-3345356375505022440), (-2983346525034927856), (-860691631967231958), 1182934255886127544, 1847814050463011016, 2177327727835720531, 2830643537854262169, 3796741975233480872, 4115178125766777443, 5681478168544905931, 6601373596472566643, 7507060721942968483, 8399075790359081724, 8693463985226723168, (-8878714635349349518), (-8302665154208450068), (-8016688836872298968), (-6606660893046293015), (-4685533653050689259), (-4147400797238176981), (-3880063495543823972), (-3348786107499101689), (-1523767162380948706), (-757361751448694408), 500013540394364858, 748580250866718886, 1242879168328830382, 1977374033974150939, 2944078676154940804, 3659926193048069267, 4368137639120453308, 4836135668995329356, 5532061633213252278, 6448918945643986474, 6902733635092675308, 7801388544844847127]]
def soXl : List (String × String) := [("LadderSigns$FieldNumbers", "PRIME"), ("LadderSigns$FieldNumbers", "INVERTING_POWER"), ("LadderSigns$FieldNumbers", "ROOT_POWER"), ("LadderSigns$FieldNumbers", "ROOT_OF_MINUS_ONE"), ("LadderSigns$Scalars", "ORDER"), ("LadderSigns$Scalars", "ONE"), ("LadderSigns$Curve", "D"), ("LadderSigns$Curve", "BASE_X"), ("LadderSigns$Curve", "BASE_Y"), ("LadderSigns$Sha512", "FIRST_STATE"), ("LadderSigns$Sha512", "ROUND_WORDS")]
def kdX (id : Nat) : Nat := kdXl.getD id 5
def lnX (id : Nat) : Nat := lnXl.getD id 0
def obX (id : Nat) : Nat × List (Nat ⊕ Nat) := obXl.getD id (3, [])
def rfX (id j : Nat) : Nat := bif Nat.beq id 35 then 11 + j else bif Nat.beq id 61 then 45 + j else 84 + 5 * j + 4
def svX (id j : Nat) : Int64 := (svXl.getD id []).getD j 0
def soX (id : Nat) : String × String := soXl.getD id ("", "")
def shX : zSh := (11, kdX, lnX, rfX, obX, svX, soX)
def tysX (kc : Nat → ClassId) : List (ClassId × FieldType) := [(kc 0, .long), (kc 2, .byte), (kc 3, .array .long), (kc 4, .object "LadderSigns$Point")]
def wX (D : va_G) (kc : Nat → ClassId) (ad : Nat → Nat) (n : Nat) : zWl := (D, vwCl, kc, tysX kc, ad, n, shX)
def kdMl : List Nat := [0, 1, 0, 0, 0, 0, 0, 0, 0, 0, 1, 0, 0, 0, 1, 0, 0]
def lnMl : List Nat := [96, 400, 768, 32, 64, 8, 80, 6, 12, 18, 768, 80, 8, 8, 64, 40, 18]
def obMl : List (Nat ⊕ Nat) := [.inl 0, .inl 1, .inr 0, .inr 1, .inr 2, .inr 3, .inr 4, .inl 2, .inl 3, .inl 4, .inl 5, .inl 6, .inl 7, .inl 8, .inl 9, .inl 10, .inr 5, .inl 11, .inl 12, .inl 13, .inl 14, .inl 15, .inl 16]
def kdM (id : Nat) : Nat := kdMl.getD id 5
def lnM (id : Nat) : Nat := lnMl.getD id 0
def obM (id : Nat) : Nat × List (Nat ⊕ Nat) := bif Nat.beq id 17 then (9, obMl) else (9, [])
def shM : zSh := (0, kdM, lnM, fun _ j => j, obM, fun _ _ => 0, fun _ => ("", ""))
def tysM (kc : Nat → ClassId) : List (ClassId × FieldType) := [(kc 0, .long), (kc 1, .int)]
def wM (D : va_G) (kc : Nat → ClassId) (ad : Nat → Nat) : zWl := (D, vwCl, kc, tysM kc, ad, 18, shM)
/-- the points' places -/
def ptl : List Nat := [67, 84, 89, 94, 99, 104, 109, 114, 119, 124, 129, 134, 139, 144, 149, 154, 159, 186, 191, 196, 205, 210]
def ptB (P : Nat) : Bool := ptl.contains P
theorem pt_mem {P : Nat} (h : ptB P = true) : P ∈ ptl := List.contains_iff_mem.mp h
theorem pt_all : ∀ P ∈ ptl, kdX (P + 4) = 5 ∧ obX (P + 4) = (3, [.inl P, .inl (P + 1), .inl (P + 2), .inl (P + 3)]) ∧ (kdX P = 0 ∧ lnX P = 10) ∧ (kdX (P + 1) = 0 ∧ lnX (P + 1) = 10) ∧ (kdX (P + 2) = 0 ∧ lnX (P + 2) = 10) ∧ (kdX (P + 3) = 0 ∧ lnX (P + 3) = 10) ∧ 67 ≤ P ∧ P < 211 := by decide +kernel
theorem pt_tab : ∀ i, i < 16 → ptB (84 + 5 * i) = true := by decide +kernel
theorem fx_RX9_13 (D : va_G) (kc : Nat → ClassId) (ad : Nat → Nat) (n : Nat) : zFld (wX D kc ad n) RX9 13 215 0 (.inl 35) := ⟨RX9, TX9, 17, rfl, rfl, rfl, inlX9, by decide, mw_1_15⟩
theorem fx_RX9_19 (D : va_G) (kc : Nat → ClassId) (ad : Nat → Nat) (n : Nat) : zFld (wX D kc ad n) RX9 19 215 1 (.inl 37) := ⟨RX9, TX9, 17, rfl, rfl, rfl, inlX9, by decide, mw_1_19⟩
theorem fx_RX9_23 (D : va_G) (kc : Nat → ClassId) (ad : Nat → Nat) (n : Nat) : zFld (wX D kc ad n) RX9 23 215 2 (.inr 0) := ⟨RX9, TX9, 17, rfl, rfl, rfl, inlX9, by decide, mw_1_20⟩
theorem pfx_RX9_23 (D : va_G) (kc : Nat → ClassId) (ad : Nat → Nat) (n : Nat) : zPut (wX D kc ad n) RX9 23 215 2 0 := ⟨RX9, TX9, 17, tyX9, rfl, rfl, rfl, inlX9, by decide, mw_1_20, tyX9_ok, nmX9, rfl, rfl⟩
theorem fx_RX9_27 (D : va_G) (kc : Nat → ClassId) (ad : Nat → Nat) (n : Nat) : zFld (wX D kc ad n) RX9 27 215 3 (.inr 1) := ⟨RX9, TX9, 17, rfl, rfl, rfl, inlX9, by decide, mw_1_21⟩
theorem pfx_RX9_27 (D : va_G) (kc : Nat → ClassId) (ad : Nat → Nat) (n : Nat) : zPut (wX D kc ad n) RX9 27 215 3 1 := ⟨RX9, TX9, 17, tyX9, rfl, rfl, rfl, inlX9, by decide, mw_1_21, tyX9_ok, nmX9, rfl, rfl⟩
theorem fx_RX9_30 (D : va_G) (kc : Nat → ClassId) (ad : Nat → Nat) (n : Nat) : zFld (wX D kc ad n) RX9 30 215 4 (.inr 2) := ⟨RX9, TX9, 17, rfl, rfl, rfl, inlX9, by decide, mw_1_22⟩
theorem pfx_RX9_30 (D : va_G) (kc : Nat → ClassId) (ad : Nat → Nat) (n : Nat) : zPut (wX D kc ad n) RX9 30 215 4 2 := ⟨RX9, TX9, 17, tyX9, rfl, rfl, rfl, inlX9, by decide, mw_1_22, tyX9_ok, nmX9, rfl, rfl⟩
theorem fx_RX9_33 (D : va_G) (kc : Nat → ClassId) (ad : Nat → Nat) (n : Nat) : zFld (wX D kc ad n) RX9 33 215 5 (.inr 3) := ⟨RX9, TX9, 17, rfl, rfl, rfl, inlX9, by decide, mw_1_23⟩
theorem pfx_RX9_33 (D : va_G) (kc : Nat → ClassId) (ad : Nat → Nat) (n : Nat) : zPut (wX D kc ad n) RX9 33 215 5 3 := ⟨RX9, TX9, 17, tyX9, rfl, rfl, rfl, inlX9, by decide, mw_1_23, tyX9_ok, nmX9, rfl, rfl⟩
theorem fx_RX9_39 (D : va_G) (kc : Nat → ClassId) (ad : Nat → Nat) (n : Nat) : zFld (wX D kc ad n) RX9 39 215 6 (.inl 62) := ⟨RX9, TX9, 17, rfl, rfl, rfl, inlX9, by decide, mw_2_3⟩
theorem fx_RX9_46 (D : va_G) (kc : Nat → ClassId) (ad : Nat → Nat) (n : Nat) : zFld (wX D kc ad n) RX9 46 215 7 (.inl 66) := ⟨RX9, TX9, 17, rfl, rfl, rfl, inlX9, by decide, mw_2_7⟩
theorem fx_RX9_55 (D : va_G) (kc : Nat → ClassId) (ad : Nat → Nat) (n : Nat) : zFld (wX D kc ad n) RX9 55 215 8 (.inl 83) := ⟨RX9, TX9, 17, rfl, rfl, rfl, inlX9, by decide, mw_2_11⟩
theorem fx_RX9_62 (D : va_G) (kc : Nat → ClassId) (ad : Nat → Nat) (n : Nat) : zFld (wX D kc ad n) RX9 62 215 9 (.inl 175) := ⟨RX9, TX9, 17, rfl, rfl, rfl, inlX9, by decide, mw_2_15⟩
theorem fx_RX9_69 (D : va_G) (kc : Nat → ClassId) (ad : Nat → Nat) (n : Nat) : zFld (wX D kc ad n) RX9 69 215 10 (.inl 179) := ⟨RX9, TX9, 17, rfl, rfl, rfl, inlX9, by decide, mw_2_19⟩
theorem fx_RX9_78 (D : va_G) (kc : Nat → ClassId) (ad : Nat → Nat) (n : Nat) : zFld (wX D kc ad n) RX9 78 215 11 (.inl 201) := ⟨RX9, TX9, 17, rfl, rfl, rfl, inlX9, by decide, mw_2_23⟩
theorem fx_RX9_82 (D : va_G) (kc : Nat → ClassId) (ad : Nat → Nat) (n : Nat) : zFld (wX D kc ad n) RX9 82 215 12 (.inl 202) := ⟨RX9, TX9, 17, rfl, rfl, rfl, inlX9, by decide, mw_3_0⟩
theorem fx_RX9_86 (D : va_G) (kc : Nat → ClassId) (ad : Nat → Nat) (n : Nat) : zFld (wX D kc ad n) RX9 86 215 13 (.inl 203) := ⟨RX9, TX9, 17, rfl, rfl, rfl, inlX9, by decide, mw_3_1⟩
theorem fx_RX9_89 (D : va_G) (kc : Nat → ClassId) (ad : Nat → Nat) (n : Nat) : zFld (wX D kc ad n) RX9 89 215 14 (.inl 204) := ⟨RX9, TX9, 17, rfl, rfl, rfl, inlX9, by decide, mw_3_2⟩
theorem fx_RX9_95 (D : va_G) (kc : Nat → ClassId) (ad : Nat → Nat) (n : Nat) : zFld (wX D kc ad n) RX9 95 215 15 (.inl 209) := ⟨RX9, TX9, 17, rfl, rfl, rfl, inlX9, by decide, mw_3_6⟩
theorem fx_RX9_99 (D : va_G) (kc : Nat → ClassId) (ad : Nat → Nat) (n : Nat) : zFld (wX D kc ad n) RX9 99 215 16 (.inl 214) := ⟨RX9, TX9, 17, rfl, rfl, rfl, inlX9, by decide, mw_3_7⟩
theorem fx_RX7_9 (D : va_G) (kc : Nat → ClassId) (ad : Nat → Nat) (n : Nat) : zFld (wX D kc ad n) RX7 9 37 0 (.inl 36) := ⟨RX7, TX7, 2, rfl, rfl, rfl, inlX7, by decide, mw_3_12⟩
theorem fx_RX7_13 (D : va_G) (kc : Nat → ClassId) (ad : Nat → Nat) (n : Nat) : zFld (wX D kc ad n) RX7 13 37 1 (.inr 4) := ⟨RX7, TX7, 2, rfl, rfl, rfl, inlX7, by decide, mw_3_13⟩
theorem pfx_RX7_13 (D : va_G) (kc : Nat → ClassId) (ad : Nat → Nat) (n : Nat) : zPut (wX D kc ad n) RX7 13 37 1 4 := ⟨RX7, TX7, 2, tyX7, rfl, rfl, rfl, inlX7, by decide, mw_3_13, tyX7_ok, nmX7, rfl, rfl⟩
theorem fx_RX1_9 (D : va_G) (kc : Nat → ClassId) (ad : Nat → Nat) (n : Nat) : zFld (wX D kc ad n) RX1 9 62 0 (.inl 38) := ⟨RX1, TX1, 8, rfl, rfl, rfl, inlX1, by decide, mw_3_18⟩
theorem fx_RX1_13 (D : va_G) (kc : Nat → ClassId) (ad : Nat → Nat) (n : Nat) : zFld (wX D kc ad n) RX1 13 62 1 (.inl 39) := ⟨RX1, TX1, 8, rfl, rfl, rfl, inlX1, by decide, mw_3_19⟩
theorem fx_RX1_16 (D : va_G) (kc : Nat → ClassId) (ad : Nat → Nat) (n : Nat) : zFld (wX D kc ad n) RX1 16 62 2 (.inl 40) := ⟨RX1, TX1, 8, rfl, rfl, rfl, inlX1, by decide, mw_3_20⟩
theorem fx_RX1_19 (D : va_G) (kc : Nat → ClassId) (ad : Nat → Nat) (n : Nat) : zFld (wX D kc ad n) RX1 19 62 3 (.inl 41) := ⟨RX1, TX1, 8, rfl, rfl, rfl, inlX1, by decide, mw_3_21⟩
theorem fx_RX1_22 (D : va_G) (kc : Nat → ClassId) (ad : Nat → Nat) (n : Nat) : zFld (wX D kc ad n) RX1 22 62 4 (.inl 42) := ⟨RX1, TX1, 8, rfl, rfl, rfl, inlX1, by decide, mw_3_22⟩
theorem fx_RX1_25 (D : va_G) (kc : Nat → ClassId) (ad : Nat → Nat) (n : Nat) : zFld (wX D kc ad n) RX1 25 62 5 (.inl 43) := ⟨RX1, TX1, 8, rfl, rfl, rfl, inlX1, by decide, mw_3_23⟩
theorem fx_RX1_28 (D : va_G) (kc : Nat → ClassId) (ad : Nat → Nat) (n : Nat) : zFld (wX D kc ad n) RX1 28 62 6 (.inl 44) := ⟨RX1, TX1, 8, rfl, rfl, rfl, inlX1, by decide, mw_4_0⟩
theorem fx_RX1_33 (D : va_G) (kc : Nat → ClassId) (ad : Nat → Nat) (n : Nat) : zFld (wX D kc ad n) RX1 33 62 7 (.inl 61) := ⟨RX1, TX1, 8, rfl, rfl, rfl, inlX1, by decide, mw_4_2⟩
theorem fx_RX4_9 (D : va_G) (kc : Nat → ClassId) (ad : Nat → Nat) (n : Nat) : zFld (wX D kc ad n) RX4 9 66 0 (.inl 63) := ⟨RX4, TX4, 3, rfl, rfl, rfl, inlX4, by decide, mw_4_13⟩
theorem fx_RX4_15 (D : va_G) (kc : Nat → ClassId) (ad : Nat → Nat) (n : Nat) : zFld (wX D kc ad n) RX4 15 66 1 (.inl 64) := ⟨RX4, TX4, 3, rfl, rfl, rfl, inlX4, by decide, mw_4_14⟩
theorem fx_RX4_18 (D : va_G) (kc : Nat → ClassId) (ad : Nat → Nat) (n : Nat) : zFld (wX D kc ad n) RX4 18 66 2 (.inl 65) := ⟨RX4, TX4, 3, rfl, rfl, rfl, inlX4, by decide, mw_4_15⟩
theorem fx_RX0_10 (D : va_G) (kc : Nat → ClassId) (ad : Nat → Nat) (n : Nat) : zFld (wX D kc ad n) RX0 10 83 0 (.inl 71) := ⟨RX0, TX0, 14, rfl, rfl, rfl, inlX0, by decide, mw_4_21⟩
theorem fx_RX0_18 (D : va_G) (kc : Nat → ClassId) (ad : Nat → Nat) (n : Nat) : zFld (wX D kc ad n) RX0 18 83 2 (.inl 72) := ⟨RX0, TX0, 14, rfl, rfl, rfl, inlX0, by decide, mw_4_22⟩
theorem fx_RX0_22 (D : va_G) (kc : Nat → ClassId) (ad : Nat → Nat) (n : Nat) : zFld (wX D kc ad n) RX0 22 83 3 (.inl 73) := ⟨RX0, TX0, 14, rfl, rfl, rfl, inlX0, by decide, mw_4_23⟩
theorem fx_RX0_25 (D : va_G) (kc : Nat → ClassId) (ad : Nat → Nat) (n : Nat) : zFld (wX D kc ad n) RX0 25 83 4 (.inl 74) := ⟨RX0, TX0, 14, rfl, rfl, rfl, inlX0, by decide, mw_5_0⟩
theorem fx_RX0_28 (D : va_G) (kc : Nat → ClassId) (ad : Nat → Nat) (n : Nat) : zFld (wX D kc ad n) RX0 28 83 5 (.inl 75) := ⟨RX0, TX0, 14, rfl, rfl, rfl, inlX0, by decide, mw_5_1⟩
theorem fx_RX0_31 (D : va_G) (kc : Nat → ClassId) (ad : Nat → Nat) (n : Nat) : zFld (wX D kc ad n) RX0 31 83 6 (.inl 76) := ⟨RX0, TX0, 14, rfl, rfl, rfl, inlX0, by decide, mw_5_2⟩
theorem fx_RX0_34 (D : va_G) (kc : Nat → ClassId) (ad : Nat → Nat) (n : Nat) : zFld (wX D kc ad n) RX0 34 83 7 (.inl 77) := ⟨RX0, TX0, 14, rfl, rfl, rfl, inlX0, by decide, mw_5_3⟩
theorem fx_RX0_37 (D : va_G) (kc : Nat → ClassId) (ad : Nat → Nat) (n : Nat) : zFld (wX D kc ad n) RX0 37 83 8 (.inl 78) := ⟨RX0, TX0, 14, rfl, rfl, rfl, inlX0, by decide, mw_5_4⟩
theorem fx_RX0_40 (D : va_G) (kc : Nat → ClassId) (ad : Nat → Nat) (n : Nat) : zFld (wX D kc ad n) RX0 40 83 9 (.inl 79) := ⟨RX0, TX0, 14, rfl, rfl, rfl, inlX0, by decide, mw_5_5⟩
theorem fx_RX0_43 (D : va_G) (kc : Nat → ClassId) (ad : Nat → Nat) (n : Nat) : zFld (wX D kc ad n) RX0 43 83 10 (.inl 80) := ⟨RX0, TX0, 14, rfl, rfl, rfl, inlX0, by decide, mw_5_6⟩
theorem fx_RX0_46 (D : va_G) (kc : Nat → ClassId) (ad : Nat → Nat) (n : Nat) : zFld (wX D kc ad n) RX0 46 83 11 (.inl 81) := ⟨RX0, TX0, 14, rfl, rfl, rfl, inlX0, by decide, mw_5_7⟩
theorem fx_RX0_51 (D : va_G) (kc : Nat → ClassId) (ad : Nat → Nat) (n : Nat) : zFld (wX D kc ad n) RX0 51 83 12 (.inl 82) := ⟨RX0, TX0, 14, rfl, rfl, rfl, inlX0, by decide, mw_5_8⟩
theorem fx_RX0_54 (D : va_G) (kc : Nat → ClassId) (ad : Nat → Nat) (n : Nat) : zFld (wX D kc ad n) RX0 54 83 13 (.inl 164) := ⟨RX0, TX0, 14, rfl, rfl, rfl, inlX0, by decide, mw_5_9⟩
theorem fx_RX0_58 (D : va_G) (kc : Nat → ClassId) (ad : Nat → Nat) (n : Nat) : zFld (wX D kc ad n) RX0 58 83 1 (.inl 62) := ⟨RX0, TX0, 14, rfl, rfl, rfl, inlX0, by decide, mw_5_10⟩
theorem fx_RX0_80 (D : va_G) (kc : Nat → ClassId) (ad : Nat → Nat) (n : Nat) {P : Nat} (hp : ptB P = true) : zFld (wX D kc ad n) RX0 80 (P + 4) 0 (.inl (P + 0)) := ⟨RX3, TX3, 4, (pt_all P (pt_mem hp)).1, by show (obX (P + 4)).2[0]? = _; rw [(pt_all P (pt_mem hp)).2.1]; rfl, by show vwCl[(obX (P + 4)).1]? = _; rw [(pt_all P (pt_mem hp)).2.1]; rfl, inlX3, by decide, mw_5_13⟩
theorem fx_RX0_86 (D : va_G) (kc : Nat → ClassId) (ad : Nat → Nat) (n : Nat) {P : Nat} (hp : ptB P = true) : zFld (wX D kc ad n) RX0 86 (P + 4) 1 (.inl (P + 1)) := ⟨RX3, TX3, 4, (pt_all P (pt_mem hp)).1, by show (obX (P + 4)).2[1]? = _; rw [(pt_all P (pt_mem hp)).2.1]; rfl, by show vwCl[(obX (P + 4)).1]? = _; rw [(pt_all P (pt_mem hp)).2.1]; rfl, inlX3, by decide, mw_5_15⟩
theorem fx_RX3_9 (D : va_G) (kc : Nat → ClassId) (ad : Nat → Nat) (n : Nat) {P : Nat} (hp : ptB P = true) : zFld (wX D kc ad n) RX3 9 (P + 4) 0 (.inl (P + 0)) := ⟨RX3, TX3, 4, (pt_all P (pt_mem hp)).1, by show (obX (P + 4)).2[0]? = _; rw [(pt_all P (pt_mem hp)).2.1]; rfl, by show vwCl[(obX (P + 4)).1]? = _; rw [(pt_all P (pt_mem hp)).2.1]; rfl, inlX3, by decide, mw_5_19⟩
theorem fx_RX3_15 (D : va_G) (kc : Nat → ClassId) (ad : Nat → Nat) (n : Nat) {P : Nat} (hp : ptB P = true) : zFld (wX D kc ad n) RX3 15 (P + 4) 1 (.inl (P + 1)) := ⟨RX3, TX3, 4, (pt_all P (pt_mem hp)).1, by show (obX (P + 4)).2[1]? = _; rw [(pt_all P (pt_mem hp)).2.1]; rfl, by show vwCl[(obX (P + 4)).1]? = _; rw [(pt_all P (pt_mem hp)).2.1]; rfl, inlX3, by decide, mw_5_20⟩
theorem fx_RX3_18 (D : va_G) (kc : Nat → ClassId) (ad : Nat → Nat) (n : Nat) {P : Nat} (hp : ptB P = true) : zFld (wX D kc ad n) RX3 18 (P + 4) 2 (.inl (P + 2)) := ⟨RX3, TX3, 4, (pt_all P (pt_mem hp)).1, by show (obX (P + 4)).2[2]? = _; rw [(pt_all P (pt_mem hp)).2.1]; rfl, by show vwCl[(obX (P + 4)).1]? = _; rw [(pt_all P (pt_mem hp)).2.1]; rfl, inlX3, by decide, mw_5_21⟩
theorem fx_RX3_21 (D : va_G) (kc : Nat → ClassId) (ad : Nat → Nat) (n : Nat) {P : Nat} (hp : ptB P = true) : zFld (wX D kc ad n) RX3 21 (P + 4) 3 (.inl (P + 3)) := ⟨RX3, TX3, 4, (pt_all P (pt_mem hp)).1, by show (obX (P + 4)).2[3]? = _; rw [(pt_all P (pt_mem hp)).2.1]; rfl, by show vwCl[(obX (P + 4)).1]? = _; rw [(pt_all P (pt_mem hp)).2.1]; rfl, inlX3, by decide, mw_5_22⟩
theorem fx_RX0_93 (D : va_G) (kc : Nat → ClassId) (ad : Nat → Nat) (n : Nat) {P : Nat} (hp : ptB P = true) : zFld (wX D kc ad n) RX0 93 (P + 4) 2 (.inl (P + 2)) := ⟨RX3, TX3, 4, (pt_all P (pt_mem hp)).1, by show (obX (P + 4)).2[2]? = _; rw [(pt_all P (pt_mem hp)).2.1]; rfl, by show vwCl[(obX (P + 4)).1]? = _; rw [(pt_all P (pt_mem hp)).2.1]; rfl, inlX3, by decide, mw_6_16⟩
theorem fx_RX0_96 (D : va_G) (kc : Nat → ClassId) (ad : Nat → Nat) (n : Nat) {P : Nat} (hp : ptB P = true) : zFld (wX D kc ad n) RX0 96 (P + 4) 3 (.inl (P + 3)) := ⟨RX3, TX3, 4, (pt_all P (pt_mem hp)).1, by show (obX (P + 4)).2[3]? = _; rw [(pt_all P (pt_mem hp)).2.1]; rfl, by show vwCl[(obX (P + 4)).1]? = _; rw [(pt_all P (pt_mem hp)).2.1]; rfl, inlX3, by decide, mw_6_17⟩
theorem fx_RX2_9 (D : va_G) (kc : Nat → ClassId) (ad : Nat → Nat) (n : Nat) : zFld (wX D kc ad n) RX2 9 175 1 (.inl 165) := ⟨RX2, TX2, 11, rfl, rfl, rfl, inlX2, by decide, mw_7_12⟩
theorem fx_RX2_17 (D : va_G) (kc : Nat → ClassId) (ad : Nat → Nat) (n : Nat) : zFld (wX D kc ad n) RX2 17 175 2 (.inl 166) := ⟨RX2, TX2, 11, rfl, rfl, rfl, inlX2, by decide, mw_7_13⟩
theorem fx_RX2_20 (D : va_G) (kc : Nat → ClassId) (ad : Nat → Nat) (n : Nat) : zFld (wX D kc ad n) RX2 20 175 3 (.inl 167) := ⟨RX2, TX2, 11, rfl, rfl, rfl, inlX2, by decide, mw_7_14⟩
theorem fx_RX2_23 (D : va_G) (kc : Nat → ClassId) (ad : Nat → Nat) (n : Nat) : zFld (wX D kc ad n) RX2 23 175 4 (.inl 168) := ⟨RX2, TX2, 11, rfl, rfl, rfl, inlX2, by decide, mw_7_15⟩
theorem fx_RX2_26 (D : va_G) (kc : Nat → ClassId) (ad : Nat → Nat) (n : Nat) : zFld (wX D kc ad n) RX2 26 175 5 (.inl 169) := ⟨RX2, TX2, 11, rfl, rfl, rfl, inlX2, by decide, mw_7_16⟩
theorem fx_RX2_29 (D : va_G) (kc : Nat → ClassId) (ad : Nat → Nat) (n : Nat) : zFld (wX D kc ad n) RX2 29 175 6 (.inl 170) := ⟨RX2, TX2, 11, rfl, rfl, rfl, inlX2, by decide, mw_7_17⟩
theorem fx_RX2_32 (D : va_G) (kc : Nat → ClassId) (ad : Nat → Nat) (n : Nat) : zFld (wX D kc ad n) RX2 32 175 7 (.inl 171) := ⟨RX2, TX2, 11, rfl, rfl, rfl, inlX2, by decide, mw_7_18⟩
theorem fx_RX2_35 (D : va_G) (kc : Nat → ClassId) (ad : Nat → Nat) (n : Nat) : zFld (wX D kc ad n) RX2 35 175 8 (.inl 172) := ⟨RX2, TX2, 11, rfl, rfl, rfl, inlX2, by decide, mw_7_19⟩
theorem fx_RX2_38 (D : va_G) (kc : Nat → ClassId) (ad : Nat → Nat) (n : Nat) : zFld (wX D kc ad n) RX2 38 175 9 (.inl 173) := ⟨RX2, TX2, 11, rfl, rfl, rfl, inlX2, by decide, mw_7_20⟩
theorem fx_RX2_41 (D : va_G) (kc : Nat → ClassId) (ad : Nat → Nat) (n : Nat) : zFld (wX D kc ad n) RX2 41 175 10 (.inl 174) := ⟨RX2, TX2, 11, rfl, rfl, rfl, inlX2, by decide, mw_7_21⟩
theorem fx_RX2_44 (D : va_G) (kc : Nat → ClassId) (ad : Nat → Nat) (n : Nat) : zFld (wX D kc ad n) RX2 44 175 0 (.inl 62) := ⟨RX2, TX2, 11, rfl, rfl, rfl, inlX2, by decide, mw_7_22⟩
theorem fx_RX5_11 (D : va_G) (kc : Nat → ClassId) (ad : Nat → Nat) (n : Nat) : zFld (wX D kc ad n) RX5 11 179 0 (.inl 176) := ⟨RX5, TX5, 4, rfl, rfl, rfl, inlX5, by decide, mw_8_2⟩
theorem fx_RX5_15 (D : va_G) (kc : Nat → ClassId) (ad : Nat → Nat) (n : Nat) : zFld (wX D kc ad n) RX5 15 179 1 (.inr 5) := ⟨RX5, TX5, 4, rfl, rfl, rfl, inlX5, by decide, mw_8_3⟩
theorem pfx_RX5_15 (D : va_G) (kc : Nat → ClassId) (ad : Nat → Nat) (n : Nat) : zPut (wX D kc ad n) RX5 15 179 1 5 := ⟨RX5, TX5, 4, tyX5, rfl, rfl, rfl, inlX5, by decide, mw_8_3, tyX5_ok, nmX5, rfl, rfl⟩
theorem fx_RX5_19 (D : va_G) (kc : Nat → ClassId) (ad : Nat → Nat) (n : Nat) : zFld (wX D kc ad n) RX5 19 179 2 (.inl 177) := ⟨RX5, TX5, 4, rfl, rfl, rfl, inlX5, by decide, mw_8_4⟩
theorem fx_RX5_23 (D : va_G) (kc : Nat → ClassId) (ad : Nat → Nat) (n : Nat) : zFld (wX D kc ad n) RX5 23 179 3 (.inl 178) := ⟨RX5, TX5, 4, rfl, rfl, rfl, inlX5, by decide, mw_8_5⟩
theorem fx_RX6_9 (D : va_G) (kc : Nat → ClassId) (ad : Nat → Nat) (n : Nat) : zFld (wX D kc ad n) RX6 9 201 3 (.inl 180) := ⟨RX6, TX6, 12, rfl, rfl, rfl, inlX6, by decide, mw_8_10⟩
theorem fx_RX6_17 (D : va_G) (kc : Nat → ClassId) (ad : Nat → Nat) (n : Nat) : zFld (wX D kc ad n) RX6 17 201 4 (.inl 181) := ⟨RX6, TX6, 12, rfl, rfl, rfl, inlX6, by decide, mw_8_11⟩
theorem fx_RX6_20 (D : va_G) (kc : Nat → ClassId) (ad : Nat → Nat) (n : Nat) : zFld (wX D kc ad n) RX6 20 201 5 (.inl 182) := ⟨RX6, TX6, 12, rfl, rfl, rfl, inlX6, by decide, mw_8_12⟩
theorem fx_RX6_23 (D : va_G) (kc : Nat → ClassId) (ad : Nat → Nat) (n : Nat) : zFld (wX D kc ad n) RX6 23 201 6 (.inl 183) := ⟨RX6, TX6, 12, rfl, rfl, rfl, inlX6, by decide, mw_8_13⟩
theorem fx_RX6_26 (D : va_G) (kc : Nat → ClassId) (ad : Nat → Nat) (n : Nat) : zFld (wX D kc ad n) RX6 26 201 7 (.inl 184) := ⟨RX6, TX6, 12, rfl, rfl, rfl, inlX6, by decide, mw_8_14⟩
theorem fx_RX6_29 (D : va_G) (kc : Nat → ClassId) (ad : Nat → Nat) (n : Nat) : zFld (wX D kc ad n) RX6 29 201 8 (.inl 185) := ⟨RX6, TX6, 12, rfl, rfl, rfl, inlX6, by decide, mw_8_15⟩
theorem fx_RX6_35 (D : va_G) (kc : Nat → ClassId) (ad : Nat → Nat) (n : Nat) : zFld (wX D kc ad n) RX6 35 201 9 (.inl 190) := ⟨RX6, TX6, 12, rfl, rfl, rfl, inlX6, by decide, mw_8_17⟩
theorem fx_RX6_39 (D : va_G) (kc : Nat → ClassId) (ad : Nat → Nat) (n : Nat) : zFld (wX D kc ad n) RX6 39 201 10 (.inl 195) := ⟨RX6, TX6, 12, rfl, rfl, rfl, inlX6, by decide, mw_8_18⟩
theorem fx_RX6_42 (D : va_G) (kc : Nat → ClassId) (ad : Nat → Nat) (n : Nat) : zFld (wX D kc ad n) RX6 42 201 11 (.inl 200) := ⟨RX6, TX6, 12, rfl, rfl, rfl, inlX6, by decide, mw_8_19⟩
theorem fx_RX6_45 (D : va_G) (kc : Nat → ClassId) (ad : Nat → Nat) (n : Nat) : zFld (wX D kc ad n) RX6 45 201 0 (.inl 83) := ⟨RX6, TX6, 12, rfl, rfl, rfl, inlX6, by decide, mw_8_20⟩
theorem fx_RX6_49 (D : va_G) (kc : Nat → ClassId) (ad : Nat → Nat) (n : Nat) : zFld (wX D kc ad n) RX6 49 201 1 (.inl 66) := ⟨RX6, TX6, 12, rfl, rfl, rfl, inlX6, by decide, mw_8_21⟩
theorem fx_RX6_53 (D : va_G) (kc : Nat → ClassId) (ad : Nat → Nat) (n : Nat) : zFld (wX D kc ad n) RX6 53 201 2 (.inl 179) := ⟨RX6, TX6, 12, rfl, rfl, rfl, inlX6, by decide, mw_8_22⟩
theorem fx_RX10_7 (D : va_G) (kc : Nat → ClassId) (ad : Nat → Nat) : zFld (wM D kc ad) RX10 7 17 0 (.inl 0) := ⟨RX10, TX10, 23, rfl, rfl, rfl, inlX10, by decide, mw_9_3⟩
theorem fx_RX10_13 (D : va_G) (kc : Nat → ClassId) (ad : Nat → Nat) : zFld (wM D kc ad) RX10 13 17 1 (.inl 1) := ⟨RX10, TX10, 23, rfl, rfl, rfl, inlX10, by decide, mw_9_5⟩
theorem fx_RX10_17 (D : va_G) (kc : Nat → ClassId) (ad : Nat → Nat) : zFld (wM D kc ad) RX10 17 17 3 (.inr 1) := ⟨RX10, TX10, 23, rfl, rfl, rfl, inlX10, by decide, mw_9_6⟩
theorem pfx_RX10_17 (D : va_G) (kc : Nat → ClassId) (ad : Nat → Nat) : zPut (wM D kc ad) RX10 17 17 3 1 := ⟨RX10, TX10, 23, tyX10, rfl, rfl, rfl, inlX10, by decide, mw_9_6, tyX10_ok, nmX10, rfl, rfl⟩
theorem fx_RX10_21 (D : va_G) (kc : Nat → ClassId) (ad : Nat → Nat) : zFld (wM D kc ad) RX10 21 17 7 (.inl 2) := ⟨RX10, TX10, 23, rfl, rfl, rfl, inlX10, by decide, mw_9_7⟩
theorem fx_RX10_24 (D : va_G) (kc : Nat → ClassId) (ad : Nat → Nat) : zFld (wM D kc ad) RX10 24 17 8 (.inl 3) := ⟨RX10, TX10, 23, rfl, rfl, rfl, inlX10, by decide, mw_9_8⟩
theorem fx_RX10_27 (D : va_G) (kc : Nat → ClassId) (ad : Nat → Nat) : zFld (wM D kc ad) RX10 27 17 9 (.inl 4) := ⟨RX10, TX10, 23, rfl, rfl, rfl, inlX10, by decide, mw_9_9⟩
theorem fx_RX10_30 (D : va_G) (kc : Nat → ClassId) (ad : Nat → Nat) : zFld (wM D kc ad) RX10 30 17 10 (.inl 5) := ⟨RX10, TX10, 23, rfl, rfl, rfl, inlX10, by decide, mw_9_10⟩
theorem fx_RX10_33 (D : va_G) (kc : Nat → ClassId) (ad : Nat → Nat) : zFld (wM D kc ad) RX10 33 17 11 (.inl 6) := ⟨RX10, TX10, 23, rfl, rfl, rfl, inlX10, by decide, mw_9_11⟩
theorem fx_RX10_36 (D : va_G) (kc : Nat → ClassId) (ad : Nat → Nat) : zFld (wM D kc ad) RX10 36 17 12 (.inl 7) := ⟨RX10, TX10, 23, rfl, rfl, rfl, inlX10, by decide, mw_9_12⟩
theorem fx_RX10_39 (D : va_G) (kc : Nat → ClassId) (ad : Nat → Nat) : zFld (wM D kc ad) RX10 39 17 13 (.inl 8) := ⟨RX10, TX10, 23, rfl, rfl, rfl, inlX10, by decide, mw_9_13⟩
theorem fx_RX10_42 (D : va_G) (kc : Nat → ClassId) (ad : Nat → Nat) : zFld (wM D kc ad) RX10 42 17 14 (.inl 9) := ⟨RX10, TX10, 23, rfl, rfl, rfl, inlX10, by decide, mw_9_14⟩
theorem fx_RX10_45 (D : va_G) (kc : Nat → ClassId) (ad : Nat → Nat) : zFld (wM D kc ad) RX10 45 17 15 (.inl 10) := ⟨RX10, TX10, 23, rfl, rfl, rfl, inlX10, by decide, mw_9_15⟩
theorem fx_RX10_48 (D : va_G) (kc : Nat → ClassId) (ad : Nat → Nat) : zFld (wM D kc ad) RX10 48 17 17 (.inl 11) := ⟨RX10, TX10, 23, rfl, rfl, rfl, inlX10, by decide, mw_9_16⟩
theorem fx_RX10_51 (D : va_G) (kc : Nat → ClassId) (ad : Nat → Nat) : zFld (wM D kc ad) RX10 51 17 18 (.inl 12) := ⟨RX10, TX10, 23, rfl, rfl, rfl, inlX10, by decide, mw_9_17⟩
theorem fx_RX10_54 (D : va_G) (kc : Nat → ClassId) (ad : Nat → Nat) : zFld (wM D kc ad) RX10 54 17 19 (.inl 13) := ⟨RX10, TX10, 23, rfl, rfl, rfl, inlX10, by decide, mw_9_18⟩
theorem fx_RX10_57 (D : va_G) (kc : Nat → ClassId) (ad : Nat → Nat) : zFld (wM D kc ad) RX10 57 17 20 (.inl 14) := ⟨RX10, TX10, 23, rfl, rfl, rfl, inlX10, by decide, mw_9_19⟩
theorem fx_RX10_60 (D : va_G) (kc : Nat → ClassId) (ad : Nat → Nat) : zFld (wM D kc ad) RX10 60 17 21 (.inl 15) := ⟨RX10, TX10, 23, rfl, rfl, rfl, inlX10, by decide, mw_9_20⟩
theorem fx_RX10_63 (D : va_G) (kc : Nat → ClassId) (ad : Nat → Nat) : zFld (wM D kc ad) RX10 63 17 22 (.inl 16) := ⟨RX10, TX10, 23, rfl, rfl, rfl, inlX10, by decide, mw_9_21⟩
theorem fx_RX9_114 (D : va_G) (kc : Nat → ClassId) (ad : Nat → Nat) (n : Nat) : zFld (wX D kc ad n) RX9 114 37 1 (.inr 4) := ⟨RX7, TX7, 2, rfl, rfl, rfl, inlX7, by decide, mw_16_21⟩
theorem pfx_RX9_114 (D : va_G) (kc : Nat → ClassId) (ad : Nat → Nat) (n : Nat) : zPut (wX D kc ad n) RX9 114 37 1 4 := ⟨RX7, TX7, 2, tyX7, rfl, rfl, rfl, inlX7, by decide, mw_16_21, tyX7_ok, nmX7, rfl, rfl⟩
theorem fx_RX10_203 (D : va_G) (kc : Nat → ClassId) (ad : Nat → Nat) : zFld (wM D kc ad) RX10 203 17 2 (.inr 0) := ⟨RX10, TX10, 23, rfl, rfl, rfl, inlX10, by decide, mw_17_6⟩
theorem pfx_RX10_203 (D : va_G) (kc : Nat → ClassId) (ad : Nat → Nat) : zPut (wM D kc ad) RX10 203 17 2 0 := ⟨RX10, TX10, 23, tyX10, rfl, rfl, rfl, inlX10, by decide, mw_17_6, tyX10_ok, nmX10, rfl, rfl⟩
theorem fx_RX9_180 (D : va_G) (kc : Nat → ClassId) (ad : Nat → Nat) (n : Nat) {P : Nat} (hp : ptB P = true) : zFld (wX D kc ad n) RX9 180 (P + 4) 0 (.inl (P + 0)) := ⟨RX3, TX3, 4, (pt_all P (pt_mem hp)).1, by show (obX (P + 4)).2[0]? = _; rw [(pt_all P (pt_mem hp)).2.1]; rfl, by show vwCl[(obX (P + 4)).1]? = _; rw [(pt_all P (pt_mem hp)).2.1]; rfl, inlX3, by decide, mw_27_8⟩
theorem fx_RX9_199 (D : va_G) (kc : Nat → ClassId) (ad : Nat → Nat) (n : Nat) : zFld (wX D kc ad n) RX9 199 83 0 (.inl 71) := ⟨RX0, TX0, 14, rfl, rfl, rfl, inlX0, by decide, mw_30_14⟩
theorem fx_RX5_32 (D : va_G) (kc : Nat → ClassId) (ad : Nat → Nat) (n : Nat) : zFld (wX D kc ad n) RX5 32 37 1 (.inr 4) := ⟨RX7, TX7, 2, rfl, rfl, rfl, inlX7, by decide, mw_34_15⟩
theorem pfx_RX5_32 (D : va_G) (kc : Nat → ClassId) (ad : Nat → Nat) (n : Nat) : zPut (wX D kc ad n) RX5 32 37 1 4 := ⟨RX7, TX7, 2, tyX7, rfl, rfl, rfl, inlX7, by decide, mw_34_15, tyX7_ok, nmX7, rfl, rfl⟩
theorem fx_RX10_197 (D : va_G) (kc : Nat → ClassId) (ad : Nat → Nat) : zFld (wM D kc ad) RX10 197 17 16 (.inr 5) := ⟨RX10, TX10, 23, rfl, rfl, rfl, inlX10, by decide, mw_36_12⟩
theorem pfx_RX10_197 (D : va_G) (kc : Nat → ClassId) (ad : Nat → Nat) : zPut (wM D kc ad) RX10 197 17 16 5 := ⟨RX10, TX10, 23, tyX10, rfl, rfl, rfl, inlX10, by decide, mw_36_12, tyX10_ok, nmX10, rfl, rfl⟩
theorem fx_RX6_61 (D : va_G) (kc : Nat → ClassId) (ad : Nat → Nat) (n : Nat) : zFld (wX D kc ad n) RX6 61 83 0 (.inl 71) := ⟨RX0, TX0, 14, rfl, rfl, rfl, inlX0, by decide, mw_37_12⟩
theorem fx_RX10_286 (D : va_G) (kc : Nat → ClassId) (ad : Nat → Nat) : zFld (wM D kc ad) RX10 286 17 4 (.inr 2) := ⟨RX10, TX10, 23, rfl, rfl, rfl, inlX10, by decide, mw_39_10⟩
theorem pfx_RX10_286 (D : va_G) (kc : Nat → ClassId) (ad : Nat → Nat) : zPut (wM D kc ad) RX10 286 17 4 2 := ⟨RX10, TX10, 23, tyX10, rfl, rfl, rfl, inlX10, by decide, mw_39_10, tyX10_ok, nmX10, rfl, rfl⟩
theorem fx_RX10_292 (D : va_G) (kc : Nat → ClassId) (ad : Nat → Nat) : zFld (wM D kc ad) RX10 292 17 5 (.inr 3) := ⟨RX10, TX10, 23, rfl, rfl, rfl, inlX10, by decide, mw_40_9⟩
theorem pfx_RX10_292 (D : va_G) (kc : Nat → ClassId) (ad : Nat → Nat) : zPut (wM D kc ad) RX10 292 17 5 3 := ⟨RX10, TX10, 23, tyX10, rfl, rfl, rfl, inlX10, by decide, mw_40_9, tyX10_ok, nmX10, rfl, rfl⟩
theorem fx_RX10_298 (D : va_G) (kc : Nat → ClassId) (ad : Nat → Nat) : zFld (wM D kc ad) RX10 298 17 6 (.inr 4) := ⟨RX10, TX10, 23, rfl, rfl, rfl, inlX10, by decide, mw_40_10⟩
theorem pfx_RX10_298 (D : va_G) (kc : Nat → ClassId) (ad : Nat → Nat) : zPut (wM D kc ad) RX10 298 17 6 4 := ⟨RX10, TX10, 23, tyX10, rfl, rfl, rfl, inlX10, by decide, mw_40_10, tyX10_ok, nmX10, rfl, rfl⟩
theorem ow_X_0 : ∀ j, j < 216 → j ≠ 215 → ∀ f ∈ (obX j).2, f ≠ .inr 0 := by decide +kernel
theorem ov_X_0 : ∀ i, i < 17 → i ≠ 2 → (obX 215).2[i]? ≠ some (.inr 0) := by decide +kernel
theorem ox_0 (D : va_G) (kc : Nat → ClassId) (ad : Nat → Nat) (n : Nat) : zOne (wX D kc ad n) 215 2 0 := by
  refine ⟨fun j _ _ hj f hf => ?_, fun i hi h => ?_⟩
  · have hf2 : f ∈ (obX j).2 := hf
    rcases Nat.lt_or_ge j 216 with h | h
    · exact ow_X_0 j h hj f hf2
    · have e : obX j = (3, []) := by
        show (obXl.getD j (3, [])) = _
        rw [List.getD_eq_getElem?_getD, List.getElem?_eq_none (show obXl.length ≤ j from h)]
        rfl
      rw [e] at hf2
      cases hf2
  · have h2 : (obX 215).2[i]? = some (.inr 0) := h
    have hlt : i < 17 := (List.getElem?_eq_some_iff.mp h2).1
    exact ov_X_0 i hlt hi h2
theorem ow_X_1 : ∀ j, j < 216 → j ≠ 215 → ∀ f ∈ (obX j).2, f ≠ .inr 1 := by decide +kernel
theorem ov_X_1 : ∀ i, i < 17 → i ≠ 3 → (obX 215).2[i]? ≠ some (.inr 1) := by decide +kernel
theorem ox_1 (D : va_G) (kc : Nat → ClassId) (ad : Nat → Nat) (n : Nat) : zOne (wX D kc ad n) 215 3 1 := by
  refine ⟨fun j _ _ hj f hf => ?_, fun i hi h => ?_⟩
  · have hf2 : f ∈ (obX j).2 := hf
    rcases Nat.lt_or_ge j 216 with h | h
    · exact ow_X_1 j h hj f hf2
    · have e : obX j = (3, []) := by
        show (obXl.getD j (3, [])) = _
        rw [List.getD_eq_getElem?_getD, List.getElem?_eq_none (show obXl.length ≤ j from h)]
        rfl
      rw [e] at hf2
      cases hf2
  · have h2 : (obX 215).2[i]? = some (.inr 1) := h
    have hlt : i < 17 := (List.getElem?_eq_some_iff.mp h2).1
    exact ov_X_1 i hlt hi h2
theorem ow_X_2 : ∀ j, j < 216 → j ≠ 215 → ∀ f ∈ (obX j).2, f ≠ .inr 2 := by decide +kernel
theorem ov_X_2 : ∀ i, i < 17 → i ≠ 4 → (obX 215).2[i]? ≠ some (.inr 2) := by decide +kernel
theorem ox_2 (D : va_G) (kc : Nat → ClassId) (ad : Nat → Nat) (n : Nat) : zOne (wX D kc ad n) 215 4 2 := by
  refine ⟨fun j _ _ hj f hf => ?_, fun i hi h => ?_⟩
  · have hf2 : f ∈ (obX j).2 := hf
    rcases Nat.lt_or_ge j 216 with h | h
    · exact ow_X_2 j h hj f hf2
    · have e : obX j = (3, []) := by
        show (obXl.getD j (3, [])) = _
        rw [List.getD_eq_getElem?_getD, List.getElem?_eq_none (show obXl.length ≤ j from h)]
        rfl
      rw [e] at hf2
      cases hf2
  · have h2 : (obX 215).2[i]? = some (.inr 2) := h
    have hlt : i < 17 := (List.getElem?_eq_some_iff.mp h2).1
    exact ov_X_2 i hlt hi h2
theorem ow_X_3 : ∀ j, j < 216 → j ≠ 215 → ∀ f ∈ (obX j).2, f ≠ .inr 3 := by decide +kernel
theorem ov_X_3 : ∀ i, i < 17 → i ≠ 5 → (obX 215).2[i]? ≠ some (.inr 3) := by decide +kernel
theorem ox_3 (D : va_G) (kc : Nat → ClassId) (ad : Nat → Nat) (n : Nat) : zOne (wX D kc ad n) 215 5 3 := by
  refine ⟨fun j _ _ hj f hf => ?_, fun i hi h => ?_⟩
  · have hf2 : f ∈ (obX j).2 := hf
    rcases Nat.lt_or_ge j 216 with h | h
    · exact ow_X_3 j h hj f hf2
    · have e : obX j = (3, []) := by
        show (obXl.getD j (3, [])) = _
        rw [List.getD_eq_getElem?_getD, List.getElem?_eq_none (show obXl.length ≤ j from h)]
        rfl
      rw [e] at hf2
      cases hf2
  · have h2 : (obX 215).2[i]? = some (.inr 3) := h
    have hlt : i < 17 := (List.getElem?_eq_some_iff.mp h2).1
    exact ov_X_3 i hlt hi h2
theorem ow_X_4 : ∀ j, j < 216 → j ≠ 37 → ∀ f ∈ (obX j).2, f ≠ .inr 4 := by decide +kernel
theorem ov_X_4 : ∀ i, i < 2 → i ≠ 1 → (obX 37).2[i]? ≠ some (.inr 4) := by decide +kernel
theorem ox_4 (D : va_G) (kc : Nat → ClassId) (ad : Nat → Nat) (n : Nat) : zOne (wX D kc ad n) 37 1 4 := by
  refine ⟨fun j _ _ hj f hf => ?_, fun i hi h => ?_⟩
  · have hf2 : f ∈ (obX j).2 := hf
    rcases Nat.lt_or_ge j 216 with h | h
    · exact ow_X_4 j h hj f hf2
    · have e : obX j = (3, []) := by
        show (obXl.getD j (3, [])) = _
        rw [List.getD_eq_getElem?_getD, List.getElem?_eq_none (show obXl.length ≤ j from h)]
        rfl
      rw [e] at hf2
      cases hf2
  · have h2 : (obX 37).2[i]? = some (.inr 4) := h
    have hlt : i < 2 := (List.getElem?_eq_some_iff.mp h2).1
    exact ov_X_4 i hlt hi h2
theorem ow_X_5 : ∀ j, j < 216 → j ≠ 179 → ∀ f ∈ (obX j).2, f ≠ .inr 5 := by decide +kernel
theorem ov_X_5 : ∀ i, i < 4 → i ≠ 1 → (obX 179).2[i]? ≠ some (.inr 5) := by decide +kernel
theorem ox_5 (D : va_G) (kc : Nat → ClassId) (ad : Nat → Nat) (n : Nat) : zOne (wX D kc ad n) 179 1 5 := by
  refine ⟨fun j _ _ hj f hf => ?_, fun i hi h => ?_⟩
  · have hf2 : f ∈ (obX j).2 := hf
    rcases Nat.lt_or_ge j 216 with h | h
    · exact ow_X_5 j h hj f hf2
    · have e : obX j = (3, []) := by
        show (obXl.getD j (3, [])) = _
        rw [List.getD_eq_getElem?_getD, List.getElem?_eq_none (show obXl.length ≤ j from h)]
        rfl
      rw [e] at hf2
      cases hf2
  · have h2 : (obX 179).2[i]? = some (.inr 5) := h
    have hlt : i < 4 := (List.getElem?_eq_some_iff.mp h2).1
    exact ov_X_5 i hlt hi h2
theorem ov_M_1 : ∀ i, i < 23 → i ≠ 3 → (obM 17).2[i]? ≠ some (.inr 1) := by decide +kernel
theorem om_1 (D : va_G) (kc : Nat → ClassId) (ad : Nat → Nat) : zOne (wM D kc ad) 17 3 1 := by
  refine ⟨fun j _ _ hj f hf => ?_, fun i hi h => ?_⟩
  · have e : obM j = (9, []) := by unfold obM; rw [beq_f hj]; rfl
    have hf2 : f ∈ (obM j).2 := hf
    rw [e] at hf2
    cases hf2
  · have h2 : (obM 17).2[i]? = some (.inr 1) := h
    have hlt : i < 23 := (List.getElem?_eq_some_iff.mp h2).1
    exact ov_M_1 i hlt hi h2
theorem ov_M_0 : ∀ i, i < 23 → i ≠ 2 → (obM 17).2[i]? ≠ some (.inr 0) := by decide +kernel
theorem om_0 (D : va_G) (kc : Nat → ClassId) (ad : Nat → Nat) : zOne (wM D kc ad) 17 2 0 := by
  refine ⟨fun j _ _ hj f hf => ?_, fun i hi h => ?_⟩
  · have e : obM j = (9, []) := by unfold obM; rw [beq_f hj]; rfl
    have hf2 : f ∈ (obM j).2 := hf
    rw [e] at hf2
    cases hf2
  · have h2 : (obM 17).2[i]? = some (.inr 0) := h
    have hlt : i < 23 := (List.getElem?_eq_some_iff.mp h2).1
    exact ov_M_0 i hlt hi h2
theorem ov_M_5 : ∀ i, i < 23 → i ≠ 16 → (obM 17).2[i]? ≠ some (.inr 5) := by decide +kernel
theorem om_5 (D : va_G) (kc : Nat → ClassId) (ad : Nat → Nat) : zOne (wM D kc ad) 17 16 5 := by
  refine ⟨fun j _ _ hj f hf => ?_, fun i hi h => ?_⟩
  · have e : obM j = (9, []) := by unfold obM; rw [beq_f hj]; rfl
    have hf2 : f ∈ (obM j).2 := hf
    rw [e] at hf2
    cases hf2
  · have h2 : (obM 17).2[i]? = some (.inr 5) := h
    have hlt : i < 23 := (List.getElem?_eq_some_iff.mp h2).1
    exact ov_M_5 i hlt hi h2
theorem ov_M_2 : ∀ i, i < 23 → i ≠ 4 → (obM 17).2[i]? ≠ some (.inr 2) := by decide +kernel
theorem om_2 (D : va_G) (kc : Nat → ClassId) (ad : Nat → Nat) : zOne (wM D kc ad) 17 4 2 := by
  refine ⟨fun j _ _ hj f hf => ?_, fun i hi h => ?_⟩
  · have e : obM j = (9, []) := by unfold obM; rw [beq_f hj]; rfl
    have hf2 : f ∈ (obM j).2 := hf
    rw [e] at hf2
    cases hf2
  · have h2 : (obM 17).2[i]? = some (.inr 2) := h
    have hlt : i < 23 := (List.getElem?_eq_some_iff.mp h2).1
    exact ov_M_2 i hlt hi h2
theorem ov_M_3 : ∀ i, i < 23 → i ≠ 5 → (obM 17).2[i]? ≠ some (.inr 3) := by decide +kernel
theorem om_3 (D : va_G) (kc : Nat → ClassId) (ad : Nat → Nat) : zOne (wM D kc ad) 17 5 3 := by
  refine ⟨fun j _ _ hj f hf => ?_, fun i hi h => ?_⟩
  · have e : obM j = (9, []) := by unfold obM; rw [beq_f hj]; rfl
    have hf2 : f ∈ (obM j).2 := hf
    rw [e] at hf2
    cases hf2
  · have h2 : (obM 17).2[i]? = some (.inr 3) := h
    have hlt : i < 23 := (List.getElem?_eq_some_iff.mp h2).1
    exact ov_M_3 i hlt hi h2
theorem ov_M_4 : ∀ i, i < 23 → i ≠ 6 → (obM 17).2[i]? ≠ some (.inr 4) := by decide +kernel
theorem om_4 (D : va_G) (kc : Nat → ClassId) (ad : Nat → Nat) : zOne (wM D kc ad) 17 6 4 := by
  refine ⟨fun j _ _ hj f hf => ?_, fun i hi h => ?_⟩
  · have e : obM j = (9, []) := by unfold obM; rw [beq_f hj]; rfl
    have hf2 : f ∈ (obM j).2 := hf
    rw [e] at hf2
    cases hf2
  · have h2 : (obM 17).2[i]? = some (.inr 4) := h
    have hlt : i < 23 := (List.getElem?_eq_some_iff.mp h2).1
    exact ov_M_4 i hlt hi h2
theorem zy_X0_complete : zYV yX0_complete cX0_complete 2 none 1 := ⟨⟨mw_6_15, mw_2_10, by decide +kernel⟩, mw_6_13, mw_6_14⟩
theorem zy_X0_becomeNeutral : zYV yX0_becomeNeutral cX0_becomeNeutral 2 none 1 := ⟨⟨mw_29_15, mw_2_10, by decide +kernel⟩, mw_29_13, mw_29_14⟩
theorem zy_X0_read : zYV yX0_read cX0_read 3 (some .boolean) 2 := ⟨⟨mw_26_8, mw_2_10, by decide +kernel⟩, mw_26_6, mw_26_7⟩
theorem zy_X0_write : zYV yX0_write cX0_write 3 none 2 := ⟨⟨mw_28_4, mw_2_10, by decide +kernel⟩, mw_28_2, mw_28_3⟩
theorem zy_X0_negate : zYV yX0_negate cX0_negate 2 none 1 := ⟨⟨mw_27_20, mw_2_10, by decide +kernel⟩, mw_27_18, mw_27_19⟩
theorem zy_X0_add : zYV yX0_add cX0_add 4 none 3 := ⟨⟨mw_28_0, mw_2_10, by decide +kernel⟩, mw_27_22, mw_27_23⟩
theorem zy_X0_twice : zYV yX0_twice cX0_twice 3 none 2 := ⟨⟨mw_29_20, mw_2_10, by decide +kernel⟩, mw_29_18, mw_29_19⟩
theorem zy_X0_multiply : zYV yX0_multiply cX0_multiply 6 none 3 := ⟨⟨mw_29_11, mw_2_10, by decide +kernel⟩, mw_29_9, mw_29_10⟩
theorem zy_X0_isNeutral : zYV yX0_isNeutral cX0_isNeutral 2 (some .boolean) 1 := ⟨⟨mw_31_2, mw_2_10, by decide +kernel⟩, mw_31_0, mw_31_1⟩
theorem zy_X0_findOtherShape : zYV yX0_findOtherShape cX0_findOtherShape 3 none 2 := ⟨⟨mw_31_20, mw_2_10, by decide +kernel⟩, mw_31_18, mw_31_19⟩
theorem zy_X1_load : zYV yX1_load cX1_load 8 none 2 := ⟨⟨mw_4_7, mw_2_2, by decide +kernel⟩, mw_4_5, mw_4_6⟩
theorem zy_X1_store : zYV yX1_store cX1_store 6 none 2 := ⟨⟨mw_20_19, mw_2_2, by decide +kernel⟩, mw_20_17, mw_20_18⟩
theorem zy_X1_move : zYV yX1_move cX1_move 3 none 2 := ⟨⟨mw_19_6, mw_2_2, by decide +kernel⟩, mw_19_4, mw_19_5⟩
theorem zy_X1_become : zYV yX1_become cX1_become 4 none 2 := ⟨⟨mw_6_2, mw_2_2, by decide +kernel⟩, mw_6_0, mw_6_1⟩
theorem zy_X1_add : zYV yX1_add cX1_add 5 none 3 := ⟨⟨mw_6_11, mw_2_2, by decide +kernel⟩, mw_6_9, mw_6_10⟩
theorem zy_X1_subtract : zYV yX1_subtract cX1_subtract 5 none 3 := ⟨⟨mw_19_19, mw_2_2, by decide +kernel⟩, mw_19_17, mw_19_18⟩
theorem zy_X1_negate : zYV yX1_negate cX1_negate 3 none 2 := ⟨⟨mw_22_14, mw_2_2, by decide +kernel⟩, mw_22_12, mw_22_13⟩
theorem zy_X1_scale : zYV yX1_scale cX1_scale 6 none 3 := ⟨⟨mw_33_7, mw_2_2, by decide +kernel⟩, mw_33_5, mw_33_6⟩
theorem zy_X1_multiply : zYV yX1_multiply cX1_multiply 8 none 3 := ⟨⟨mw_6_21, mw_2_2, by decide +kernel⟩, mw_6_19, mw_6_20⟩
theorem zy_X1_square : zYV yX1_square cX1_square 7 none 2 := ⟨⟨mw_20_11, mw_2_2, by decide +kernel⟩, mw_20_9, mw_20_10⟩
theorem zy_X1_fold : zYV yX1_fold cX1_fold 3 none 1 := ⟨⟨mw_7_1, mw_2_2, by decide +kernel⟩, mw_6_23, mw_7_0⟩
theorem zy_X1_carry : zYV yX1_carry cX1_carry 4 none 1 := ⟨⟨mw_7_6, mw_2_2, by decide +kernel⟩, mw_7_4, mw_7_5⟩
theorem zy_X1_makeExact : zYV yX1_makeExact cX1_makeExact 2 none 1 := ⟨⟨mw_19_2, mw_2_2, by decide +kernel⟩, mw_19_0, mw_19_1⟩
theorem zy_X1_isZero : zYV yX1_isZero cX1_isZero 2 (some .boolean) 1 := ⟨⟨mw_18_22, mw_2_2, by decide +kernel⟩, mw_18_20, mw_18_21⟩
theorem zy_X1_areSame : zYV yX1_areSame cX1_areSame 3 (some .boolean) 2 := ⟨⟨mw_22_5, mw_2_2, by decide +kernel⟩, mw_22_3, mw_22_4⟩
theorem zy_X1_isNothing : zYS yX1_isNothing cX1_isNothing 4 (some .boolean) 1 := ⟨⟨mw_19_10, mw_2_2, by decide +kernel⟩, mw_19_9⟩
theorem zy_X1_isOdd : zYV yX1_isOdd cX1_isOdd 2 (some .boolean) 1 := ⟨⟨mw_22_10, mw_2_2, by decide +kernel⟩, mw_22_8, mw_22_9⟩
theorem zy_X1_raise : zYV yX1_raise cX1_raise 6 none 3 := ⟨⟨mw_20_5, mw_2_2, by decide +kernel⟩, mw_20_3, mw_20_4⟩
theorem zy_X1_invert : zYV yX1_invert cX1_invert 3 none 2 := ⟨⟨mw_20_0, mw_2_2, by decide +kernel⟩, mw_19_22, mw_19_23⟩
theorem zy_X1_findRoot : zYV yX1_findRoot cX1_findRoot 3 (some .boolean) 2 := ⟨⟨mw_22_0, mw_2_2, by decide +kernel⟩, mw_21_22, mw_21_23⟩
theorem zy_X2_climb : zYV yX2_climb cX2_climb 5 none 3 := ⟨⟨mw_32_8, mw_2_14, by decide +kernel⟩, mw_32_6, mw_32_7⟩
theorem zy_X2_step : zYV yX2_step cX2_step 6 none 5 := ⟨⟨mw_32_22, mw_2_14, by decide +kernel⟩, mw_32_20, mw_32_21⟩
theorem zy_X4_isBelowOrder : zYS yX4_isBelowOrder cX4_isBelowOrder 1 (some .boolean) 1 := ⟨⟨mw_23_9, mw_2_6, by decide +kernel⟩, mw_23_8⟩
theorem zy_X4_increase : zYS yX4_increase cX4_increase 2 none 2 := ⟨⟨mw_24_20, mw_2_6, by decide +kernel⟩, mw_24_19⟩
theorem zy_X4_reduce : zYS yX4_reduce cX4_reduce 4 none 3 := ⟨⟨mw_24_15, mw_2_6, by decide +kernel⟩, mw_24_14⟩
theorem zy_X4_multiplyAndAdd : zYV yX4_multiplyAndAdd cX4_multiplyAndAdd 6 none 4 := ⟨⟨mw_24_12, mw_2_6, by decide +kernel⟩, mw_24_10, mw_24_11⟩
theorem zy_X5_begin : zYV yX5_begin cX5_begin 1 none 0 := ⟨⟨mw_34_10, mw_2_18, by decide +kernel⟩, mw_34_8, mw_34_9⟩
theorem zy_X5_takeByte : zYV yX5_takeByte cX5_takeByte 2 none 1 := ⟨⟨mw_34_20, mw_2_18, by decide +kernel⟩, mw_34_18, mw_34_19⟩
theorem zy_X5_takeRow : zYV yX5_takeRow cX5_takeRow 3 none 1 := ⟨⟨mw_37_22, mw_2_18, by decide +kernel⟩, mw_37_20, mw_37_21⟩
theorem zy_X5_takeText : zYV yX5_takeText cX5_takeText 3 none 1 := ⟨⟨mw_34_14, mw_2_18, by decide +kernel⟩, mw_34_12, mw_34_13⟩
theorem zy_X5_finish : zYV yX5_finish cX5_finish 4 none 1 := ⟨⟨mw_35_0, mw_2_18, by decide +kernel⟩, mw_34_22, mw_34_23⟩
theorem zy_X5_pad : zYV yX5_pad cX5_pad 3 none 1 := ⟨⟨mw_35_6, mw_2_18, by decide +kernel⟩, mw_35_4, mw_35_5⟩
theorem zy_X5_fillSchedule : zYV yX5_fillSchedule cX5_fillSchedule 11 none 1 := ⟨⟨mw_35_10, mw_2_18, by decide +kernel⟩, mw_35_8, mw_35_9⟩
theorem zy_X5_mix : zYV yX5_mix cX5_mix 28 none 0 := ⟨⟨mw_35_17, mw_2_18, by decide +kernel⟩, mw_35_15, mw_35_16⟩
theorem zy_X5_rotated : zYS yX5_rotated cX5_rotated 3 (some .long) 2 := ⟨⟨mw_35_13, mw_2_18, by decide +kernel⟩, mw_35_12⟩
theorem zy_X5_turned : zYS yX5_turned cX5_turned 5 (some .long) 1 := ⟨⟨mw_35_22, mw_2_18, by decide +kernel⟩, mw_35_21⟩
theorem zy_X6_makeKey : zYV yX6_makeKey cX6_makeKey 3 none 2 := ⟨⟨mw_37_11, mw_2_22, by decide +kernel⟩, mw_37_9, mw_37_10⟩
theorem zy_X6_makeSignature : zYV yX6_makeSignature cX6_makeSignature 5 none 4 := ⟨⟨mw_38_22, mw_2_22, by decide +kernel⟩, mw_38_20, mw_38_21⟩
theorem zy_X6_isRight : zYV yX6_isRight cX6_isRight 6 (some .boolean) 4 := ⟨⟨mw_39_22, mw_2_22, by decide +kernel⟩, mw_39_20, mw_39_21⟩
theorem zy_X6_unfold : zYV yX6_unfold cX6_unfold 2 none 1 := ⟨⟨mw_37_16, mw_2_22, by decide +kernel⟩, mw_37_14, mw_37_15⟩
theorem zy_X6_findChallenge : zYV yX6_findChallenge cX6_findChallenge 4 none 3 := ⟨⟨mw_39_4, mw_2_22, by decide +kernel⟩, mw_39_2, mw_39_3⟩
theorem zy_X7_append : zYV yX7_append cX7_append 5 none 2 := ⟨⟨mw_17_1, mw_1_18, by decide +kernel⟩, mw_16_23, mw_17_0⟩
theorem zy_X7_byteAt : zYV yX7_byteAt cX7_byteAt 2 (some .int) 1 := ⟨⟨mw_17_22, mw_1_18, by decide +kernel⟩, mw_17_20, mw_17_21⟩
theorem zy_X8_bit : zYS yX8_bit cX8_bit 2 (some .int) 2 := ⟨⟨mw_18_9, mw_15_23, by decide +kernel⟩, mw_18_8⟩
theorem zy_X8_nibble : zYS yX8_nibble cX8_nibble 2 (some .int) 2 := ⟨⟨mw_20_15, mw_15_23, by decide +kernel⟩, mw_20_14⟩
theorem zy_X8_move : zYS yX8_move cX8_move 2 none 2 := ⟨⟨mw_16_0, mw_15_23, by decide +kernel⟩, mw_15_22⟩
theorem zy_X8_order : zYS yX8_order cX8_order 3 (some .int) 2 := ⟨⟨mw_23_2, mw_15_23, by decide +kernel⟩, mw_23_1⟩
theorem zy_X8_bitLength : zYS yX8_bitLength cX8_bitLength 2 (some .int) 1 := ⟨⟨mw_23_15, mw_15_23, by decide +kernel⟩, mw_23_14⟩
theorem zy_X8_increase : zYS yX8_increase cX8_increase 11 none 2 := ⟨⟨mw_24_23, mw_15_23, by decide +kernel⟩, mw_24_22⟩
theorem zy_X8_decrease : zYS yX8_decrease cX8_decrease 11 none 2 := ⟨⟨mw_25_3, mw_15_23, by decide +kernel⟩, mw_25_2⟩
theorem zy_X8_clamp : zYS yX8_clamp cX8_clamp 1 none 1 := ⟨⟨mw_32_12, mw_15_23, by decide +kernel⟩, mw_32_11⟩
theorem zy_X9_set : zYV yX9_set cX9_set 5 (some .int) 3 := ⟨⟨mw_14_16, mw_1_2, by decide +kernel⟩, mw_14_14, mw_14_15⟩
theorem zy_X9_word : zYV yX9_word cX9_word 3 (some .long) 2 := ⟨⟨mw_15_12, mw_1_2, by decide +kernel⟩, mw_15_10, mw_15_11⟩
theorem zy_X9_copy : zYV yX9_copy cX9_copy 3 (some .int) 2 := ⟨⟨mw_15_20, mw_1_2, by decide +kernel⟩, mw_15_18, mw_15_19⟩
theorem zy_X9_type : zYV yX9_type cX9_type 4 (some .int) 2 := ⟨⟨mw_16_20, mw_1_2, by decide +kernel⟩, mw_16_18, mw_16_19⟩
theorem zy_X9_clear : zYV yX9_clear cX9_clear 2 (some .int) 0 := ⟨⟨mw_17_10, mw_1_2, by decide +kernel⟩, mw_17_8, mw_17_9⟩
theorem zy_X9_at : zYV yX9_at cX9_at 2 (some .int) 1 := ⟨⟨mw_17_18, mw_1_2, by decide +kernel⟩, mw_17_16, mw_17_17⟩
theorem zy_X9_flip : zYV yX9_flip cX9_flip 5 (some .int) 3 := ⟨⟨mw_18_6, mw_1_2, by decide +kernel⟩, mw_18_4, mw_18_5⟩
theorem zy_X9_field : zYV yX9_field cX9_field 5 (some .int) 4 := ⟨⟨mw_18_17, mw_1_2, by decide +kernel⟩, mw_18_15, mw_18_16⟩
theorem zy_X9_power : zYV yX9_power cX9_power 4 (some .int) 3 := ⟨⟨mw_21_11, mw_1_2, by decide +kernel⟩, mw_21_9, mw_21_10⟩
theorem zy_X9_root : zYV yX9_root cX9_root 3 (some .int) 2 := ⟨⟨mw_21_20, mw_1_2, by decide +kernel⟩, mw_21_18, mw_21_19⟩
theorem zy_X9_about : zYV yX9_about cX9_about 4 (some .int) 2 := ⟨⟨mw_22_22, mw_1_2, by decide +kernel⟩, mw_22_20, mw_22_21⟩
theorem zy_X9_compare : zYV yX9_compare cX9_compare 3 (some .int) 2 := ⟨⟨mw_24_0, mw_1_2, by decide +kernel⟩, mw_23_22, mw_23_23⟩
theorem zy_X9_scalar : zYV yX9_scalar cX9_scalar 5 (some .int) 4 := ⟨⟨mw_24_8, mw_1_2, by decide +kernel⟩, mw_24_6, mw_24_7⟩
theorem zy_X9_isPoint : zYV yX9_isPoint cX9_isPoint 2 (some .int) 1 := ⟨⟨mw_26_4, mw_1_2, by decide +kernel⟩, mw_26_2, mw_26_3⟩
theorem zy_X9_across : zYV yX9_across cX9_across 3 (some .int) 2 := ⟨⟨mw_27_7, mw_1_2, by decide +kernel⟩, mw_27_5, mw_27_6⟩
theorem zy_X9_sum : zYV yX9_sum cX9_sum 5 (some .int) 4 := ⟨⟨mw_27_16, mw_1_2, by decide +kernel⟩, mw_27_14, mw_27_15⟩
theorem zy_X9_times : zYV yX9_times cX9_times 4 (some .int) 3 := ⟨⟨mw_29_7, mw_1_2, by decide +kernel⟩, mw_29_5, mw_29_6⟩
theorem zy_X9_base : zYV yX9_base cX9_base 3 (some .int) 2 := ⟨⟨mw_30_13, mw_1_2, by decide +kernel⟩, mw_30_11, mw_30_12⟩
theorem zy_X9_small : zYV yX9_small cX9_small 3 (some .int) 1 := ⟨⟨mw_30_22, mw_1_2, by decide +kernel⟩, mw_30_20, mw_30_21⟩
theorem zy_X9_other : zYV yX9_other cX9_other 3 (some .int) 2 := ⟨⟨mw_31_16, mw_1_2, by decide +kernel⟩, mw_31_14, mw_31_15⟩
theorem zy_X9_share : zYV yX9_share cX9_share 4 (some .int) 3 := ⟨⟨mw_32_4, mw_1_2, by decide +kernel⟩, mw_32_2, mw_32_3⟩
theorem zy_X9_digest : zYV yX9_digest cX9_digest 2 (some .int) 1 := ⟨⟨mw_34_2, mw_1_2, by decide +kernel⟩, mw_34_0, mw_34_1⟩
theorem zy_X9_key : zYV yX9_key cX9_key 3 (some .int) 2 := ⟨⟨mw_37_7, mw_1_2, by decide +kernel⟩, mw_37_5, mw_37_6⟩
theorem zy_X9_sign : zYV yX9_sign cX9_sign 3 (some .int) 2 := ⟨⟨mw_38_18, mw_1_2, by decide +kernel⟩, mw_38_16, mw_38_17⟩
theorem zy_X9_judge : zYV yX9_judge cX9_judge 3 (some .int) 2 := ⟨⟨mw_39_18, mw_1_2, by decide +kernel⟩, mw_39_16, mw_39_17⟩
theorem zy_X9_count : zYV yX9_count cX9_count 2 (some .int) 1 := ⟨⟨mw_40_22, mw_1_2, by decide +kernel⟩, mw_40_20, mw_40_21⟩
theorem zy_X9_isSlot : zYS yX9_isSlot cX9_isSlot 1 (some .boolean) 1 := ⟨⟨mw_14_19, mw_1_2, by decide +kernel⟩, mw_14_18⟩
theorem zy_X9_isPair : zYS yX9_isPair cX9_isPair 1 (some .boolean) 1 := ⟨⟨mw_34_6, mw_1_2, by decide +kernel⟩, mw_34_5⟩
theorem zy_X9_isWithin : zYS yX9_isWithin cX9_isWithin 2 (some .boolean) 2 := ⟨⟨mw_14_22, mw_1_2, by decide +kernel⟩, mw_14_21⟩
theorem zy_X9_told : zYS yX9_told cX9_told 1 (some .int) 1 := ⟨⟨mw_23_6, mw_1_2, by decide +kernel⟩, mw_23_5⟩
theorem zy_X9_combine : zYV yX9_combine cX9_combine 2 none 1 := ⟨⟨mw_19_14, mw_1_2, by decide +kernel⟩, mw_19_12, mw_19_13⟩
theorem zy_X10_in : zYS yX10_in cX10_in 3 (some .boolean) 3 := ⟨⟨mw_15_8, mw_1_5, by decide +kernel⟩, mw_15_7⟩
theorem zy_X10_isSlot : zYS yX10_isSlot cX10_isSlot 1 (some .boolean) 1 := ⟨⟨mw_15_5, mw_1_5, by decide +kernel⟩, mw_15_4⟩
theorem zy_X10_words : zYV yX10_words cX10_words 10 none 5 := ⟨⟨mw_10_14, mw_1_5, by decide +kernel⟩, mw_10_12, mw_10_13⟩
theorem zy_X10_fromSlot : zYV yX10_fromSlot cX10_fromSlot 3 none 2 := ⟨⟨mw_16_12, mw_1_5, by decide +kernel⟩, mw_16_10, mw_16_11⟩
theorem zy_X10_toSlot : zYV yX10_toSlot cX10_toSlot 4 none 2 := ⟨⟨mw_16_16, mw_1_5, by decide +kernel⟩, mw_16_14, mw_16_15⟩
theorem zy_X10_bit : zYV yX10_bit cX10_bit 3 (some .int) 2 := ⟨⟨mw_11_16, mw_1_5, by decide +kernel⟩, mw_11_14, mw_11_15⟩
theorem zy_X10_isBelow : zYS yX10_isBelow cX10_isBelow 4 (some .boolean) 2 := ⟨⟨mw_13_2, mw_1_5, by decide +kernel⟩, mw_13_1⟩
theorem zy_X10_against : zYV yX10_against cX10_against 4 (some .int) 2 := ⟨⟨mw_12_23, mw_1_5, by decide +kernel⟩, mw_12_21, mw_12_22⟩
theorem zy_X10_put : zYV yX10_put cX10_put 5 none 2 := ⟨⟨mw_10_18, mw_1_5, by decide +kernel⟩, mw_10_16, mw_10_17⟩
theorem zy_X10_copyOf : zYV yX10_copyOf cX10_copyOf 4 none 2 := ⟨⟨mw_11_3, mw_1_5, by decide +kernel⟩, mw_11_1, mw_11_2⟩
theorem zy_X10_reduce : zYV yX10_reduce cX10_reduce 5 none 1 := ⟨⟨mw_11_12, mw_1_5, by decide +kernel⟩, mw_11_10, mw_11_11⟩
theorem zy_X10_add : zYV yX10_add cX10_add 5 none 3 := ⟨⟨mw_12_5, mw_1_5, by decide +kernel⟩, mw_12_3, mw_12_4⟩
theorem zy_X10_subtract : zYV yX10_subtract cX10_subtract 5 none 3 := ⟨⟨mw_11_20, mw_1_5, by decide +kernel⟩, mw_11_18, mw_11_19⟩
theorem zy_X10_multiply : zYV yX10_multiply cX10_multiply 6 none 3 := ⟨⟨mw_11_7, mw_1_5, by decide +kernel⟩, mw_11_5, mw_11_6⟩
theorem zy_X10_raise : zYV yX10_raise cX10_raise 5 none 3 := ⟨⟨mw_10_23, mw_1_5, by decide +kernel⟩, mw_10_21, mw_10_22⟩
theorem zy_X10_invert : zYV yX10_invert cX10_invert 3 none 2 := ⟨⟨mw_12_0, mw_1_5, by decide +kernel⟩, mw_11_22, mw_11_23⟩
theorem zy_X10_pack : zYV yX10_pack cX10_pack 5 none 2 := ⟨⟨mw_12_9, mw_1_5, by decide +kernel⟩, mw_12_7, mw_12_8⟩
theorem zy_X10_lessPrime : zYV yX10_lessPrime cX10_lessPrime 6 none 0 := ⟨⟨mw_12_13, mw_1_5, by decide +kernel⟩, mw_12_11, mw_12_12⟩
theorem zy_X10_unpack : zYV yX10_unpack cX10_unpack 4 none 2 := ⟨⟨mw_13_7, mw_1_5, by decide +kernel⟩, mw_13_5, mw_13_6⟩
theorem zy_X10_isSame : zYV yX10_isSame cX10_isSame 3 (some .boolean) 2 := ⟨⟨mw_13_17, mw_1_5, by decide +kernel⟩, mw_13_15, mw_13_16⟩
theorem zy_X10_lowest : zYV yX10_lowest cX10_lowest 2 (some .int) 1 := ⟨⟨mw_13_21, mw_1_5, by decide +kernel⟩, mw_13_19, mw_13_20⟩
theorem zy_X10_roots : zYV yX10_roots cX10_roots 3 (some .boolean) 2 := ⟨⟨mw_13_11, mw_1_5, by decide +kernel⟩, mw_13_9, mw_13_10⟩
theorem zy_X10_neutral : zYV yX10_neutral cX10_neutral 2 none 1 := ⟨⟨mw_30_9, mw_1_5, by decide +kernel⟩, mw_30_7, mw_30_8⟩
theorem zy_X10_addPoint : zYV yX10_addPoint cX10_addPoint 3 none 2 := ⟨⟨mw_28_19, mw_1_5, by decide +kernel⟩, mw_28_17, mw_28_18⟩
theorem zy_X10_many : zYV yX10_many cX10_many 5 none 3 := ⟨⟨mw_30_5, mw_1_5, by decide +kernel⟩, mw_30_3, mw_30_4⟩
theorem zy_X10_bytes : zYV yX10_bytes cX10_bytes 5 none 2 := ⟨⟨mw_29_3, mw_1_5, by decide +kernel⟩, mw_29_1, mw_29_2⟩
theorem zy_X10_open : zYV yX10_open cX10_open 5 (some .boolean) 2 := ⟨⟨mw_12_19, mw_1_5, by decide +kernel⟩, mw_12_17, mw_12_18⟩
theorem zy_X10_isNeutral : zYV yX10_isNeutral cX10_isNeutral 2 (some .boolean) 1 := ⟨⟨mw_31_12, mw_1_5, by decide +kernel⟩, mw_31_10, mw_31_11⟩
theorem zy_X10_isPrime : zYS yX10_isPrime cX10_isPrime 3 (some .boolean) 1 := ⟨⟨mw_14_4, mw_1_5, by decide +kernel⟩, mw_14_3⟩
theorem zy_X10_powers : zYV yX10_powers cX10_powers 3 none 0 := ⟨⟨mw_14_12, mw_1_5, by decide +kernel⟩, mw_14_10, mw_14_11⟩
theorem zy_X10_behindPoint : zYV yX10_behindPoint cX10_behindPoint 6 (some .long) 2 := ⟨⟨mw_14_8, mw_1_5, by decide +kernel⟩, mw_14_6, mw_14_7⟩
theorem zy_X10_roots_ : zYV yX10_roots_ cX10_roots_ 3 none 0 := ⟨⟨mw_14_1, mw_1_5, by decide +kernel⟩, mw_13_23, mw_14_0⟩
theorem zy_X10_tell : zYV yX10_tell cX10_tell 2 none 1 := ⟨⟨mw_36_11, mw_1_5, by decide +kernel⟩, mw_36_9, mw_36_10⟩
theorem zy_X10_tellWords : zYV yX10_tellWords cX10_tellWords 3 none 1 := ⟨⟨mw_38_14, mw_1_5, by decide +kernel⟩, mw_38_12, mw_38_13⟩
theorem zy_X10_tellText : zYV yX10_tellText cX10_tellText 2 none 0 := ⟨⟨mw_36_7, mw_1_5, by decide +kernel⟩, mw_36_5, mw_36_6⟩
theorem zy_X10_turned : zYS yX10_turned cX10_turned 3 (some .long) 2 := ⟨⟨mw_36_23, mw_1_5, by decide +kernel⟩, mw_36_22⟩
theorem zy_X10_block : zYV yX10_block cX10_block 8 none 1 := ⟨⟨mw_36_20, mw_1_5, by decide +kernel⟩, mw_36_18, mw_36_19⟩
theorem zy_X10_digests : zYV yX10_digests cX10_digests 3 none 0 := ⟨⟨mw_36_16, mw_1_5, by decide +kernel⟩, mw_36_14, mw_36_15⟩
theorem zy_X10_digestWords : zYV yX10_digestWords cX10_digestWords 7 none 2 := ⟨⟨mw_37_3, mw_1_5, by decide +kernel⟩, mw_37_1, mw_37_2⟩
theorem zy_X10_limb : zYS yX10_limb cX10_limb 3 (some .long) 2 := ⟨⟨mw_25_16, mw_1_5, by decide +kernel⟩, mw_25_15⟩
theorem zy_X10_modulo : zYV yX10_modulo cX10_modulo 6 none 1 := ⟨⟨mw_25_20, mw_1_5, by decide +kernel⟩, mw_25_18, mw_25_19⟩
theorem zy_X10_lessOrder : zYV yX10_lessOrder cX10_lessOrder 6 none 0 := ⟨⟨mw_26_0, mw_1_5, by decide +kernel⟩, mw_25_22, mw_25_23⟩
theorem zy_X10_scalarOf : zYV yX10_scalarOf cX10_scalarOf 7 none 4 := ⟨⟨mw_25_13, mw_1_5, by decide +kernel⟩, mw_25_11, mw_25_12⟩
theorem zy_X10_digestScalar : zYV yX10_digestScalar cX10_digestScalar 3 none 1 := ⟨⟨mw_39_14, mw_1_5, by decide +kernel⟩, mw_39_12, mw_39_13⟩
theorem zy_X10_set : zYV yX10_set cX10_set 5 (some .int) 3 := ⟨⟨mw_15_2, mw_1_5, by decide +kernel⟩, mw_15_0, mw_15_1⟩
theorem zy_X10_word : zYV yX10_word cX10_word 3 (some .long) 2 := ⟨⟨mw_15_16, mw_1_5, by decide +kernel⟩, mw_15_14, mw_15_15⟩
theorem zy_X10_copy : zYV yX10_copy cX10_copy 3 (some .int) 2 := ⟨⟨mw_16_8, mw_1_5, by decide +kernel⟩, mw_16_6, mw_16_7⟩
theorem zy_X10_type : zYV yX10_type cX10_type 5 (some .int) 2 := ⟨⟨mw_17_5, mw_1_5, by decide +kernel⟩, mw_17_3, mw_17_4⟩
theorem zy_X10_clear : zYV yX10_clear cX10_clear 2 (some .int) 0 := ⟨⟨mw_17_14, mw_1_5, by decide +kernel⟩, mw_17_12, mw_17_13⟩
theorem zy_X10_at : zYV yX10_at cX10_at 2 (some .int) 1 := ⟨⟨mw_18_2, mw_1_5, by decide +kernel⟩, mw_18_0, mw_18_1⟩
theorem zy_X10_flip : zYV yX10_flip cX10_flip 5 (some .int) 3 := ⟨⟨mw_18_13, mw_1_5, by decide +kernel⟩, mw_18_11, mw_18_12⟩
theorem zy_X10_load : zYV yX10_load cX10_load 3 none 2 := ⟨⟨mw_21_3, mw_1_5, by decide +kernel⟩, mw_21_1, mw_21_2⟩
theorem zy_X10_store : zYV yX10_store cX10_store 3 none 2 := ⟨⟨mw_21_7, mw_1_5, by decide +kernel⟩, mw_21_5, mw_21_6⟩
theorem zy_X10_field : zYV yX10_field cX10_field 5 (some .int) 4 := ⟨⟨mw_20_23, mw_1_5, by decide +kernel⟩, mw_20_21, mw_20_22⟩
theorem zy_X10_power : zYV yX10_power cX10_power 4 (some .int) 3 := ⟨⟨mw_21_16, mw_1_5, by decide +kernel⟩, mw_21_14, mw_21_15⟩
theorem zy_X10_root : zYV yX10_root cX10_root 3 (some .int) 2 := ⟨⟨mw_22_18, mw_1_5, by decide +kernel⟩, mw_22_16, mw_22_17⟩
theorem zy_X10_about : zYV yX10_about cX10_about 4 (some .int) 2 := ⟨⟨mw_23_20, mw_1_5, by decide +kernel⟩, mw_23_18, mw_23_19⟩
theorem zy_X10_compare : zYV yX10_compare cX10_compare 3 (some .int) 2 := ⟨⟨mw_24_4, mw_1_5, by decide +kernel⟩, mw_24_2, mw_24_3⟩
theorem zy_X10_scalar : zYV yX10_scalar cX10_scalar 5 (some .int) 4 := ⟨⟨mw_25_9, mw_1_5, by decide +kernel⟩, mw_25_7, mw_25_8⟩
theorem zy_X10_opens : zYV yX10_opens cX10_opens 3 (some .boolean) 2 := ⟨⟨mw_27_3, mw_1_5, by decide +kernel⟩, mw_27_1, mw_27_2⟩
theorem zy_X10_storePoint : zYV yX10_storePoint cX10_storePoint 3 none 2 := ⟨⟨mw_28_23, mw_1_5, by decide +kernel⟩, mw_28_21, mw_28_22⟩
theorem zy_X10_isPoint : zYV yX10_isPoint cX10_isPoint 2 (some .int) 1 := ⟨⟨mw_26_23, mw_1_5, by decide +kernel⟩, mw_26_21, mw_26_22⟩
theorem zy_X10_across : zYV yX10_across cX10_across 3 (some .int) 2 := ⟨⟨mw_27_12, mw_1_5, by decide +kernel⟩, mw_27_10, mw_27_11⟩
theorem zy_X10_negate : zYV yX10_negate cX10_negate 2 none 1 := ⟨⟨mw_28_15, mw_1_5, by decide +kernel⟩, mw_28_13, mw_28_14⟩
theorem zy_X10_sum : zYV yX10_sum cX10_sum 5 (some .int) 4 := ⟨⟨mw_28_11, mw_1_5, by decide +kernel⟩, mw_28_9, mw_28_10⟩
theorem zy_X10_times : zYV yX10_times cX10_times 4 (some .int) 3 := ⟨⟨mw_30_1, mw_1_5, by decide +kernel⟩, mw_29_23, mw_30_0⟩
theorem zy_X10_base : zYV yX10_base cX10_base 3 (some .int) 2 := ⟨⟨mw_30_18, mw_1_5, by decide +kernel⟩, mw_30_16, mw_30_17⟩
theorem zy_X10_small : zYV yX10_small cX10_small 3 (some .int) 1 := ⟨⟨mw_31_8, mw_1_5, by decide +kernel⟩, mw_31_6, mw_31_7⟩
theorem zy_X10_other : zYV yX10_other cX10_other 3 (some .int) 2 := ⟨⟨mw_32_0, mw_1_5, by decide +kernel⟩, mw_31_22, mw_31_23⟩
theorem zy_X10_clamp : zYV yX10_clamp cX10_clamp 2 none 1 := ⟨⟨mw_33_16, mw_1_5, by decide +kernel⟩, mw_33_14, mw_33_15⟩
theorem zy_X10_swap : zYV yX10_swap cX10_swap 6 none 2 := ⟨⟨mw_33_22, mw_1_5, by decide +kernel⟩, mw_33_20, mw_33_21⟩
theorem zy_X10_share : zYV yX10_share cX10_share 6 (some .int) 3 := ⟨⟨mw_33_12, mw_1_5, by decide +kernel⟩, mw_33_10, mw_33_11⟩
theorem zy_X10_digest : zYV yX10_digest cX10_digest 2 (some .int) 1 := ⟨⟨mw_36_3, mw_1_5, by decide +kernel⟩, mw_36_1, mw_36_2⟩
theorem zy_X10_open_ : zYV yX10_open_ cX10_open_ 2 none 1 := ⟨⟨mw_38_10, mw_1_5, by decide +kernel⟩, mw_38_8, mw_38_9⟩
theorem zy_X10_key : zYV yX10_key cX10_key 3 (some .int) 2 := ⟨⟨mw_38_6, mw_1_5, by decide +kernel⟩, mw_38_4, mw_38_5⟩
theorem zy_X10_sign : zYV yX10_sign cX10_sign 3 (some .int) 2 := ⟨⟨mw_39_9, mw_1_5, by decide +kernel⟩, mw_39_7, mw_39_8⟩
theorem zy_X10_eightTimes : zYV yX10_eightTimes cX10_eightTimes 3 none 1 := ⟨⟨mw_40_18, mw_1_5, by decide +kernel⟩, mw_40_16, mw_40_17⟩
theorem zy_X10_isRight : zYV yX10_isRight cX10_isRight 3 (some .boolean) 2 := ⟨⟨mw_40_14, mw_1_5, by decide +kernel⟩, mw_40_12, mw_40_13⟩
theorem zy_X10_judge : zYV yX10_judge cX10_judge 3 (some .int) 2 := ⟨⟨mw_40_8, mw_1_5, by decide +kernel⟩, mw_40_6, mw_40_7⟩
theorem zy_X10_count : zYV yX10_count cX10_count 2 (some .int) 1 := ⟨⟨mw_41_2, mw_1_5, by decide +kernel⟩, mw_41_0, mw_41_1⟩
theorem zy_J7_fill_d0a16 : zYS yJ7_fill_d0a16 cJ7_fill_d0a16 5 none 2 := ⟨⟨mw_6_6, mw_6_5, by decide +kernel⟩, mw_6_4⟩
abbrev rX0_init : Room := { frames := 3, cells := 0, slots := 0, locals := 72 }
abbrev rX0_complete : Room := { frames := 2, cells := 0, slots := 0, locals := 51 }
abbrev rX0_becomeNeutral : Room := { frames := 3, cells := 0, slots := 0, locals := 72 }
abbrev rX0_read : Room := { frames := 5, cells := 0, slots := 0, locals := 113 }
abbrev rX0_write : Room := { frames := 4, cells := 0, slots := 0, locals := 98 }
abbrev rX0_negate : Room := { frames := 2, cells := 0, slots := 0, locals := 46 }
abbrev rX0_add : Room := { frames := 2, cells := 0, slots := 0, locals := 51 }
abbrev rX0_twice : Room := { frames := 2, cells := 0, slots := 0, locals := 51 }
abbrev rX0_multiply : Room := { frames := 4, cells := 0, slots := 0, locals := 93 }
abbrev rX0_isNeutral : Room := { frames := 4, cells := 0, slots := 0, locals := 91 }
abbrev rX0_findOtherShape : Room := { frames := 4, cells := 0, slots := 0, locals := 98 }
abbrev rX1_init : Room := { frames := 1, cells := 0, slots := 0, locals := 27 }
abbrev rX1_load : Room := { frames := 0, cells := 0, slots := 0, locals := 0 }
abbrev rX1_store : Room := { frames := 3, cells := 0, slots := 0, locals := 69 }
abbrev rX1_move : Room := { frames := 1, cells := 0, slots := 0, locals := 26 }
abbrev rX1_become : Room := { frames := 1, cells := 0, slots := 0, locals := 24 }
abbrev rX1_add : Room := { frames := 0, cells := 0, slots := 0, locals := 0 }
abbrev rX1_subtract : Room := { frames := 0, cells := 0, slots := 0, locals := 0 }
abbrev rX1_negate : Room := { frames := 1, cells := 0, slots := 0, locals := 24 }
abbrev rX1_scale : Room := { frames := 1, cells := 0, slots := 0, locals := 23 }
abbrev rX1_multiply : Room := { frames := 1, cells := 0, slots := 0, locals := 24 }
abbrev rX1_square : Room := { frames := 1, cells := 0, slots := 0, locals := 24 }
abbrev rX1_fold : Room := { frames := 0, cells := 0, slots := 0, locals := 0 }
abbrev rX1_carry : Room := { frames := 0, cells := 0, slots := 0, locals := 0 }
abbrev rX1_makeExact : Room := { frames := 2, cells := 0, slots := 0, locals := 48 }
abbrev rX1_isZero : Room := { frames := 3, cells := 0, slots := 0, locals := 69 }
abbrev rX1_areSame : Room := { frames := 3, cells := 0, slots := 0, locals := 69 }
abbrev rX1_isNothing : Room := { frames := 0, cells := 0, slots := 0, locals := 0 }
abbrev rX1_isOdd : Room := { frames := 3, cells := 0, slots := 0, locals := 69 }
abbrev rX1_raise : Room := { frames := 2, cells := 0, slots := 0, locals := 51 }
abbrev rX1_invert : Room := { frames := 3, cells := 0, slots := 0, locals := 76 }
abbrev rX1_findRoot : Room := { frames := 4, cells := 0, slots := 0, locals := 91 }
abbrev rX2_init : Room := { frames := 1, cells := 0, slots := 0, locals := 12 }
abbrev rX2_climb : Room := { frames := 4, cells := 0, slots := 0, locals := 98 }
abbrev rX2_step : Room := { frames := 2, cells := 0, slots := 0, locals := 51 }
abbrev rX3_init : Room := { frames := 1, cells := 0, slots := 0, locals := 12 }
abbrev rX4_init : Room := { frames := 1, cells := 0, slots := 0, locals := 12 }
abbrev rX4_isBelowOrder : Room := { frames := 1, cells := 0, slots := 0, locals := 22 }
abbrev rX4_increase : Room := { frames := 1, cells := 0, slots := 0, locals := 30 }
abbrev rX4_reduce : Room := { frames := 2, cells := 0, slots := 0, locals := 51 }
abbrev rX4_multiplyAndAdd : Room := { frames := 3, cells := 0, slots := 0, locals := 74 }
abbrev rX5_init : Room := { frames := 1, cells := 0, slots := 0, locals := 12 }
abbrev rX5_begin : Room := { frames := 0, cells := 0, slots := 0, locals := 0 }
abbrev rX5_takeByte : Room := { frames := 0, cells := 0, slots := 0, locals := 0 }
abbrev rX5_takeRow : Room := { frames := 1, cells := 0, slots := 0, locals := 21 }
abbrev rX5_takeText : Room := { frames := 1, cells := 0, slots := 0, locals := 21 }
abbrev rX5_finish : Room := { frames := 2, cells := 0, slots := 0, locals := 69 }
abbrev rX5_pad : Room := { frames := 0, cells := 0, slots := 0, locals := 0 }
abbrev rX5_fillSchedule : Room := { frames := 1, cells := 0, slots := 0, locals := 22 }
abbrev rX5_mix : Room := { frames := 1, cells := 0, slots := 0, locals := 22 }
abbrev rX5_rotated : Room := { frames := 0, cells := 0, slots := 0, locals := 0 }
abbrev rX5_turned : Room := { frames := 0, cells := 0, slots := 0, locals := 0 }
abbrev rX6_init : Room := { frames := 1, cells := 0, slots := 0, locals := 12 }
abbrev rX6_makeKey : Room := { frames := 5, cells := 0, slots := 0, locals := 120 }
abbrev rX6_makeSignature : Room := { frames := 5, cells := 0, slots := 0, locals := 120 }
abbrev rX6_isRight : Room := { frames := 6, cells := 0, slots := 0, locals := 135 }
abbrev rX6_unfold : Room := { frames := 3, cells := 0, slots := 0, locals := 92 }
abbrev rX6_findChallenge : Room := { frames := 3, cells := 0, slots := 0, locals := 92 }
abbrev rX7_init : Room := { frames := 1, cells := 0, slots := 0, locals := 12 }
abbrev rX7_append : Room := { frames := 0, cells := 0, slots := 0, locals := 0 }
abbrev rX7_byteAt : Room := { frames := 0, cells := 0, slots := 0, locals := 0 }
abbrev rX8_bit : Room := { frames := 0, cells := 0, slots := 0, locals := 0 }
abbrev rX8_nibble : Room := { frames := 0, cells := 0, slots := 0, locals := 0 }
abbrev rX8_move : Room := { frames := 1, cells := 0, slots := 0, locals := 26 }
abbrev rX8_order : Room := { frames := 0, cells := 0, slots := 0, locals := 0 }
abbrev rX8_bitLength : Room := { frames := 1, cells := 0, slots := 0, locals := 21 }
abbrev rX8_increase : Room := { frames := 0, cells := 0, slots := 0, locals := 0 }
abbrev rX8_decrease : Room := { frames := 0, cells := 0, slots := 0, locals := 0 }
abbrev rX8_clamp : Room := { frames := 0, cells := 0, slots := 0, locals := 0 }
abbrev rX9_init : Room := { frames := 4, cells := 0, slots := 0, locals := 94 }
abbrev rX9_set : Room := { frames := 2, cells := 0, slots := 0, locals := 41 }
abbrev rX9_word : Room := { frames := 2, cells := 0, slots := 0, locals := 41 }
abbrev rX9_copy : Room := { frames := 2, cells := 0, slots := 0, locals := 47 }
abbrev rX9_type : Room := { frames := 1, cells := 0, slots := 0, locals := 24 }
abbrev rX9_clear : Room := { frames := 0, cells := 0, slots := 0, locals := 0 }
abbrev rX9_at : Room := { frames := 1, cells := 0, slots := 0, locals := 21 }
abbrev rX9_flip : Room := { frames := 2, cells := 0, slots := 0, locals := 41 }
abbrev rX9_field : Room := { frames := 5, cells := 0, slots := 0, locals := 119 }
abbrev rX9_power : Room := { frames := 4, cells := 0, slots := 0, locals := 94 }
abbrev rX9_root : Room := { frames := 5, cells := 0, slots := 0, locals := 113 }
abbrev rX9_about : Room := { frames := 4, cells := 0, slots := 0, locals := 90 }
abbrev rX9_compare : Room := { frames := 2, cells := 0, slots := 0, locals := 41 }
abbrev rX9_scalar : Room := { frames := 4, cells := 0, slots := 0, locals := 99 }
abbrev rX9_isPoint : Room := { frames := 6, cells := 0, slots := 0, locals := 135 }
abbrev rX9_across : Room := { frames := 6, cells := 0, slots := 0, locals := 135 }
abbrev rX9_sum : Room := { frames := 6, cells := 0, slots := 0, locals := 135 }
abbrev rX9_times : Room := { frames := 6, cells := 0, slots := 0, locals := 135 }
abbrev rX9_base : Room := { frames := 5, cells := 0, slots := 0, locals := 120 }
abbrev rX9_small : Room := { frames := 6, cells := 0, slots := 0, locals := 135 }
abbrev rX9_other : Room := { frames := 6, cells := 0, slots := 0, locals := 135 }
abbrev rX9_share : Room := { frames := 5, cells := 0, slots := 0, locals := 122 }
abbrev rX9_digest : Room := { frames := 3, cells := 0, slots := 0, locals := 92 }
abbrev rX9_key : Room := { frames := 6, cells := 0, slots := 0, locals := 142 }
abbrev rX9_sign : Room := { frames := 6, cells := 0, slots := 0, locals := 144 }
abbrev rX9_judge : Room := { frames := 7, cells := 0, slots := 0, locals := 160 }
abbrev rX9_count : Room := { frames := 0, cells := 0, slots := 0, locals := 0 }
abbrev rX9_isSlot : Room := { frames := 1, cells := 0, slots := 0, locals := 21 }
abbrev rX9_isPair : Room := { frames := 1, cells := 0, slots := 0, locals := 21 }
abbrev rX9_isWithin : Room := { frames := 0, cells := 0, slots := 0, locals := 0 }
abbrev rX9_told : Room := { frames := 0, cells := 0, slots := 0, locals := 0 }
abbrev rX9_combine : Room := { frames := 4, cells := 0, slots := 0, locals := 98 }
abbrev rX10_init : Room := { frames := 5, cells := 0, slots := 0, locals := 119 }
abbrev rX10_in : Room := { frames := 0, cells := 0, slots := 0, locals := 0 }
abbrev rX10_isSlot : Room := { frames := 1, cells := 0, slots := 0, locals := 22 }
abbrev rX10_words : Room := { frames := 0, cells := 0, slots := 0, locals := 0 }
abbrev rX10_fromSlot : Room := { frames := 1, cells := 0, slots := 0, locals := 29 }
abbrev rX10_toSlot : Room := { frames := 0, cells := 0, slots := 0, locals := 0 }
abbrev rX10_bit : Room := { frames := 0, cells := 0, slots := 0, locals := 0 }
abbrev rX10_isBelow : Room := { frames := 0, cells := 0, slots := 0, locals := 0 }
abbrev rX10_against : Room := { frames := 1, cells := 0, slots := 0, locals := 23 }
abbrev rX10_put : Room := { frames := 0, cells := 0, slots := 0, locals := 0 }
abbrev rX10_copyOf : Room := { frames := 0, cells := 0, slots := 0, locals := 0 }
abbrev rX10_reduce : Room := { frames := 0, cells := 0, slots := 0, locals := 0 }
abbrev rX10_add : Room := { frames := 0, cells := 0, slots := 0, locals := 0 }
abbrev rX10_subtract : Room := { frames := 0, cells := 0, slots := 0, locals := 0 }
abbrev rX10_multiply : Room := { frames := 1, cells := 0, slots := 0, locals := 24 }
abbrev rX10_raise : Room := { frames := 2, cells := 0, slots := 0, locals := 49 }
abbrev rX10_invert : Room := { frames := 3, cells := 0, slots := 0, locals := 73 }
abbrev rX10_pack : Room := { frames := 1, cells := 0, slots := 0, locals := 25 }
abbrev rX10_lessPrime : Room := { frames := 0, cells := 0, slots := 0, locals := 0 }
abbrev rX10_unpack : Room := { frames := 0, cells := 0, slots := 0, locals := 0 }
abbrev rX10_isSame : Room := { frames := 2, cells := 0, slots := 0, locals := 49 }
abbrev rX10_lowest : Room := { frames := 2, cells := 0, slots := 0, locals := 49 }
abbrev rX10_roots : Room := { frames := 3, cells := 0, slots := 0, locals := 73 }
abbrev rX10_neutral : Room := { frames := 1, cells := 0, slots := 0, locals := 24 }
abbrev rX10_addPoint : Room := { frames := 2, cells := 0, slots := 0, locals := 49 }
abbrev rX10_many : Room := { frames := 3, cells := 0, slots := 0, locals := 71 }
abbrev rX10_bytes : Room := { frames := 4, cells := 0, slots := 0, locals := 95 }
abbrev rX10_open : Room := { frames := 4, cells := 0, slots := 0, locals := 95 }
abbrev rX10_isNeutral : Room := { frames := 3, cells := 0, slots := 0, locals := 71 }
abbrev rX10_isPrime : Room := { frames := 0, cells := 0, slots := 0, locals := 0 }
abbrev rX10_powers : Room := { frames := 0, cells := 0, slots := 0, locals := 0 }
abbrev rX10_behindPoint : Room := { frames := 1, cells := 0, slots := 0, locals := 22 }
abbrev rX10_roots_ : Room := { frames := 2, cells := 0, slots := 0, locals := 47 }
abbrev rX10_tell : Room := { frames := 0, cells := 0, slots := 0, locals := 0 }
abbrev rX10_tellWords : Room := { frames := 1, cells := 0, slots := 0, locals := 21 }
abbrev rX10_tellText : Room := { frames := 1, cells := 0, slots := 0, locals := 21 }
abbrev rX10_turned : Room := { frames := 0, cells := 0, slots := 0, locals := 0 }
abbrev rX10_block : Room := { frames := 1, cells := 0, slots := 0, locals := 22 }
abbrev rX10_digests : Room := { frames := 2, cells := 0, slots := 0, locals := 49 }
abbrev rX10_digestWords : Room := { frames := 0, cells := 0, slots := 0, locals := 0 }
abbrev rX10_limb : Room := { frames := 0, cells := 0, slots := 0, locals := 0 }
abbrev rX10_modulo : Room := { frames := 2, cells := 0, slots := 0, locals := 47 }
abbrev rX10_lessOrder : Room := { frames := 1, cells := 0, slots := 0, locals := 22 }
abbrev rX10_scalarOf : Room := { frames := 3, cells := 0, slots := 0, locals := 72 }
abbrev rX10_digestScalar : Room := { frames := 3, cells := 0, slots := 0, locals := 72 }
abbrev rX10_set : Room := { frames := 2, cells := 0, slots := 0, locals := 42 }
abbrev rX10_word : Room := { frames := 2, cells := 0, slots := 0, locals := 42 }
abbrev rX10_copy : Room := { frames := 2, cells := 0, slots := 0, locals := 51 }
abbrev rX10_type : Room := { frames := 1, cells := 0, slots := 0, locals := 22 }
abbrev rX10_clear : Room := { frames := 0, cells := 0, slots := 0, locals := 0 }
abbrev rX10_at : Room := { frames := 1, cells := 0, slots := 0, locals := 22 }
abbrev rX10_flip : Room := { frames := 2, cells := 0, slots := 0, locals := 42 }
abbrev rX10_load : Room := { frames := 2, cells := 0, slots := 0, locals := 51 }
abbrev rX10_store : Room := { frames := 2, cells := 0, slots := 0, locals := 49 }
abbrev rX10_field : Room := { frames := 4, cells := 0, slots := 0, locals := 95 }
abbrev rX10_power : Room := { frames := 3, cells := 0, slots := 0, locals := 73 }
abbrev rX10_root : Room := { frames := 4, cells := 0, slots := 0, locals := 95 }
abbrev rX10_about : Room := { frames := 3, cells := 0, slots := 0, locals := 71 }
abbrev rX10_compare : Room := { frames := 2, cells := 0, slots := 0, locals := 51 }
abbrev rX10_scalar : Room := { frames := 4, cells := 0, slots := 0, locals := 98 }
abbrev rX10_opens : Room := { frames := 5, cells := 0, slots := 0, locals := 119 }
abbrev rX10_storePoint : Room := { frames := 5, cells := 0, slots := 0, locals := 119 }
abbrev rX10_isPoint : Room := { frames := 6, cells := 0, slots := 0, locals := 141 }
abbrev rX10_across : Room := { frames := 6, cells := 0, slots := 0, locals := 141 }
abbrev rX10_negate : Room := { frames := 1, cells := 0, slots := 0, locals := 24 }
abbrev rX10_sum : Room := { frames := 6, cells := 0, slots := 0, locals := 141 }
abbrev rX10_times : Room := { frames := 6, cells := 0, slots := 0, locals := 141 }
abbrev rX10_base : Room := { frames := 6, cells := 0, slots := 0, locals := 141 }
abbrev rX10_small : Room := { frames := 6, cells := 0, slots := 0, locals := 141 }
abbrev rX10_other : Room := { frames := 6, cells := 0, slots := 0, locals := 141 }
abbrev rX10_clamp : Room := { frames := 0, cells := 0, slots := 0, locals := 0 }
abbrev rX10_swap : Room := { frames := 0, cells := 0, slots := 0, locals := 0 }
abbrev rX10_share : Room := { frames := 4, cells := 0, slots := 0, locals := 95 }
abbrev rX10_digest : Room := { frames := 3, cells := 0, slots := 0, locals := 71 }
abbrev rX10_open_ : Room := { frames := 5, cells := 0, slots := 0, locals := 119 }
abbrev rX10_key : Room := { frames := 6, cells := 0, slots := 0, locals := 140 }
abbrev rX10_sign : Room := { frames := 6, cells := 0, slots := 0, locals := 140 }
abbrev rX10_eightTimes : Room := { frames := 3, cells := 0, slots := 0, locals := 71 }
abbrev rX10_isRight : Room := { frames := 6, cells := 0, slots := 0, locals := 141 }
abbrev rX10_judge : Room := { frames := 7, cells := 0, slots := 0, locals := 163 }
abbrev rX10_count : Room := { frames := 0, cells := 0, slots := 0, locals := 0 }
abbrev rJ7_fill_d0a16 : Room := { frames := 0, cells := 0, slots := 0, locals := 0 }
