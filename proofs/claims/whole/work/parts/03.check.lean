def mplL : List (List (Nat × Nat × Nat × Nat)) := [[(0, 0, 0, 0), (77, 53, 76, 0), (412, 53, 410, 411), (291, 53, 289, 290), (299, 53, 297, 298), (416, 53, 414, 415), (374, 53, 372, 373), (382, 53, 381, 6), (378, 53, 376, 377), (391, 53, 389, 390), (580, 53, 578, 579), (401, 53, 399, 400), (586, 53, 584, 585), (363, 53, 361, 362)],
  [(606, 53, 604, 605), (511, 53, 509, 510), (523, 53, 521, 522), (505, 53, 503, 504), (279, 59, 278, 0), (320, 59, 319, 0), (335, 59, 334, 0), (329, 59, 328, 0), (332, 59, 331, 0), (326, 59, 325, 0), (460, 59, 459, 0), (323, 59, 322, 0), (314, 59, 313, 0), (341, 60, 340, 0)],
  [(338, 60, 337, 0), (317, 60, 316, 0), (358, 60, 357, 0), (446, 60, 445, 0), (152, 55, 151, 0), (232, 55, 230, 231), (236, 55, 234, 235), (220, 55, 218, 219), (633, 55, 631, 632), (122, 54, 121, 0), (67, 52, 66, 0), (209, 52, 207, 208), (224, 52, 222, 223), (240, 52, 238, 239)],
  [(244, 52, 242, 243), (248, 52, 246, 247), (255, 52, 253, 254), (259, 52, 257, 258), (266, 52, 264, 265), (270, 52, 268, 269), (283, 52, 281, 282), (303, 52, 301, 302), (347, 52, 345, 346), (367, 52, 365, 366), (387, 52, 385, 386), (397, 52, 395, 396), (405, 52, 403, 404), (421, 52, 419, 420)],
  [(425, 52, 423, 424), (431, 52, 429, 430), (440, 52, 438, 439), (450, 52, 448, 449), (471, 52, 469, 470), (475, 52, 473, 474), (492, 52, 490, 491), (501, 52, 499, 500), (534, 52, 532, 533), (538, 52, 536, 537), (542, 52, 540, 541), (546, 52, 544, 545), (553, 52, 551, 552), (570, 52, 568, 569)],
  [(574, 52, 572, 573), (590, 52, 588, 589), (594, 52, 592, 593), (598, 52, 596, 597), (602, 52, 600, 601), (618, 52, 616, 617), (622, 52, 620, 621), (626, 52, 624, 625), (212, 52, 211, 0), (262, 52, 261, 0), (408, 52, 407, 0), (370, 52, 369, 0), (307, 52, 306, 4), (216, 52, 215, 0)],
  [(228, 52, 227, 1), (435, 52, 434, 7), (479, 52, 478, 10), (273, 52, 272, 0), (276, 52, 275, 0), (287, 52, 286, 2), (295, 52, 294, 3), (311, 52, 310, 5), (610, 52, 609, 0), (614, 52, 613, 20), (464, 52, 463, 9), (467, 52, 466, 0), (443, 52, 442, 0), (457, 52, 456, 8)],
  [(549, 52, 548, 0), (483, 52, 482, 11), (487, 52, 486, 12), (496, 52, 495, 13), (515, 52, 514, 14), (530, 52, 529, 16), (519, 52, 518, 15), (557, 52, 556, 17), (561, 52, 560, 18), (566, 52, 565, 19), (639, 57, 638, 0), (724, 57, 723, 0), (835, 57, 834, 0), (789, 57, 788, 0)],
  [(728, 57, 727, 21), (744, 57, 743, 24), (797, 57, 796, 26), (721, 57, 720, 0), (767, 57, 766, 0), (732, 57, 731, 22), (718, 57, 716, 717), (740, 57, 739, 23), (736, 57, 734, 735), (748, 57, 746, 747), (752, 57, 750, 751), (756, 57, 754, 755), (760, 57, 758, 759), (764, 57, 762, 763)],
  [(771, 57, 769, 770), (782, 57, 781, 0), (779, 57, 778, 25), (775, 57, 773, 774), (786, 57, 784, 785), (824, 57, 823, 32), (828, 57, 827, 33), (820, 57, 819, 31), (855, 57, 854, 37), (808, 57, 807, 0), (890, 57, 889, 0), (812, 57, 811, 29), (805, 57, 804, 28), (816, 57, 815, 30)],
  [(801, 57, 800, 27), (793, 57, 791, 792), (843, 57, 842, 35), (839, 57, 838, 34), (832, 57, 830, 831), (851, 57, 850, 36), (847, 57, 845, 846), (859, 57, 857, 858), (863, 57, 861, 862), (867, 57, 865, 866), (871, 57, 869, 870), (887, 57, 886, 39), (875, 57, 873, 874), (883, 57, 882, 38)],
  [(879, 57, 877, 878), (905, 57, 904, 41), (897, 57, 896, 0), (901, 57, 900, 40), (894, 57, 892, 893), (913, 57, 912, 42), (909, 57, 907, 908), (917, 57, 915, 916), (925, 57, 924, 43), (929, 57, 928, 44), (921, 57, 919, 920), (937, 57, 936, 45), (933, 57, 931, 932), (945, 57, 944, 46)],
  [(941, 57, 939, 940), (949, 57, 947, 948), (953, 57, 951, 952), (957, 57, 955, 956), (961, 57, 959, 960), (969, 57, 968, 47), (965, 57, 963, 964), (973, 57, 971, 972), (984, 57, 983, 48), (977, 57, 975, 976), (988, 57, 986, 987), (992, 57, 990, 991), (996, 57, 994, 995), (1007, 57, 1006, 0)],
  [(1011, 57, 1010, 50), (1004, 57, 1003, 49), (1000, 57, 998, 999), (1015, 57, 1013, 1014), (1019, 57, 1017, 1018), (1023, 57, 1021, 1022), (352, 61, 351, 0), (453, 62, 452, 0)]]
def mpl (M : Nat) : Nat × Nat × Nat × Nat := nth (nth mplL (M / 14) []) (M % 14) (0, 0, 0, 0)
def NM : Nat := 190
def plObj : Nat × Nat := (69, 70)
def plCpy : Nat × Nat × Nat := (251, 250, 58)
def pl_max : Nat × Nat × Nat := (155, 56, 156)
def pl_min : Nat × Nat × Nat := (525, 56, 526)
def plArr : Nat × Nat × Nat × Nat := (116, 714, 117, 72)
def plIns (a : Nat) : Nat × Nat := match a with
  | 0 => (74, 53)
  | 1 => (149, 55)
  | 2 => (119, 54)
  | 3 => (64, 52)
  | _ => (636, 57)
/-! THE TABLES ARE THE CODE: each row of them against the bytes and the Statement's words -/
def kR (a : Nat) : String := match a with
  | 2 => "FerryChange$Ferry"
  | _ => "FerryChange$Row"
def eqW (pl : Nat) (w : Cond) : Bool := decide (lw_tbl[pl]? = some w)
noncomputable def chkA (y : MethodName) (bs : ByteArray) (rt : Option FieldType) (pc : Nat) (q : INS) : Bool :=
  match q.1 with
  | .iconst n => decide (-1 ≤ n) && decide (n ≤ 5)
  | .bipush n => decide (-128 ≤ n) && decide (n ≤ 127)
  | .sipush n => decide (-32768 ≤ n) && decide (n ≤ 32767)
  | .ldc i => eqW q.2.2.1 (.constant y.cls i (Int32.ofInt q.2.2.2.2)) && decide (-2147483648 ≤ q.2.2.2.2) && decide (q.2.2.2.2 ≤ 2147483647)
  | .ldc_w i => eqW q.2.2.1 (.constant y.cls i (Int32.ofInt q.2.2.2.2)) && decide (-2147483648 ≤ q.2.2.2.2) && decide (q.2.2.2.2 ≤ 2147483647)
  | .ldc2_w i => eqW q.2.2.1 (.constantLong y.cls i (Int64.ofInt q.2.2.2.2)) && decide (-9223372036854775808 ≤ q.2.2.2.2) && decide (q.2.2.2.2 ≤ 9223372036854775807)
  | .getfield i => Nat.ble q.2.2.1 4 && Nat.blt q.2.2.2.1 (clK q.2.2.1) && eqW q.2.2.2.2.toNat (.fieldLink y.cls i (clT q.2.2.1 q.2.2.2.1).1 (clT q.2.2.1 q.2.2.2.1).2.1 (clT q.2.2.1 q.2.2.2.1).2.2.1)
  | .putfield i => Nat.ble q.2.2.1 4 && Nat.blt q.2.2.2.1 (clK q.2.2.1) && eqW q.2.2.2.2.toNat (.fieldLink y.cls i (clT q.2.2.1 q.2.2.2.1).1 (clT q.2.2.1 q.2.2.2.1).2.1 (clT q.2.2.1 q.2.2.2.1).2.2.1)
    && (!(clT q.2.2.1 q.2.2.2.1).2.2.2 || (decide (y.name = "<init>") && decide ((clT q.2.2.1 q.2.2.2.1).1 = y.cls)))
  | .new i => Nat.ble q.2.2.1 4 && eqW q.2.2.2.1 (.classLink y.cls i (clR q.2.2.1))
  | .anewarray i => (Nat.beq q.2.2.1 2 || Nat.beq q.2.2.1 3) && eqW q.2.2.2.1 (.classLink y.cls i (kR q.2.2.1))
  | .invokevirtual i => Nat.ble 1 q.2.2.1 && Nat.blt q.2.2.1 NM && eqW q.2.2.2.1 (.methodLink y.cls i (minf q.2.2.1).1)
  | .invokestatic i => bif Nat.beq q.2.2.1 9999 then eqW q.2.2.2.1 (.methodLink y.cls i arraycopyName) else bif Nat.beq q.2.2.1 9997 then eqW q.2.2.2.1 (.methodLink y.cls i Lib.Math.max.name) else bif Nat.beq q.2.2.1 9996 then eqW q.2.2.2.1 (.methodLink y.cls i Lib.Math.min.name) else Nat.ble 1 q.2.2.1 && Nat.blt q.2.2.1 NM && eqW q.2.2.2.1 (.methodLink y.cls i (minf q.2.2.1).1)
  | .invokespecial i => bif Nat.beq q.2.2.1 9998 then eqW q.2.2.2.1 (.methodLink y.cls i objectInit) else Nat.ble 1 q.2.2.1 && Nat.blt q.2.2.1 NM && (eqW q.2.2.2.1 (.methodLink y.cls i (minf q.2.2.1).1) || eqW q.2.2.2.1 (.methodLinkNest y.cls i (minf q.2.2.1).1 "FerryChange"))
  | .tableswitch dflt lo hi offs => decide (0 ≤ (pc : Int) + dflt) && offs.toList.all (fun o => decide (0 ≤ (pc : Int) + o)) && decide (hi - lo + 1 = (offs.toList.length : Int))
  | .lookupswitch dflt ps => decide (0 ≤ (pc : Int) + dflt) && ps.toList.all (fun o => decide (0 ≤ (pc : Int) + o.2)) && (ps.toList.zip (ps.toList.drop 1)).all (fun (a, next) => a.1 < next.1)
  | .goto off => decide (0 ≤ (pc : Int) + off)
  | .if_icmp _ off => decide (0 ≤ (pc : Int) + off)
  | .ifCond _ off => decide (0 ≤ (pc : Int) + off)
  | .ireturn => (Nat.beq q.2.2.1 0 && decide (rt = some .int)) || (Nat.beq q.2.2.1 1 && decide (rt = some .boolean))
  | .lreturn => decide (rt = some .long)
  | .return_ => decide (rt = none)
  | _ => true
noncomputable def chkI (y : MethodName) (bs : ByteArray) (rt : Option FieldType) (pc : Nat) (q : INS) : Bool := decide (decode bs pc = .ok (q.1, q.2.1)) && chkA y bs rt pc q
noncomputable def chkC (y : MethodName) (bs : ByteArray) (rt : Option FieldType) : Nat → List (Option INS) → Bool
  | _, [] => true
  | pc, none :: t => chkC y bs rt (pc + 1) t
  | pc, some q :: t => chkI y bs rt pc q && chkC y bs rt (pc + 1) t
noncomputable def chkB (y : MethodName) (bs : ByteArray) (rt : Option FieldType) : Nat → List (List (Option INS)) → Bool
  | _, [] => true
  | b, l :: t => chkC y bs rt b l && chkB y bs rt (b + 16) t
theorem chkB_app {y : MethodName} {bs : ByteArray} {rt : Option FieldType} : ∀ {l1 l2 : List (List (Option INS))} {b c : Nat}, chkB y bs rt b l1 = true → c = b + 16 * l1.length → chkB y bs rt c l2 = true → chkB y bs rt b (l1 ++ l2) = true
  | [], l2, b, c, _, h, h2 => by
    have e : c = b := by simpa using h
    subst e; exact h2
  | l :: t, l2, b, c, h1, h, h2 => by
    simp only [chkB, Bool.and_eq_true, List.cons_append] at h1 ⊢
    refine ⟨h1.1, chkB_app h1.2 ?_ h2⟩
    simp only [List.length_cons] at h
    omega
noncomputable def chkN (M : Nat) : Bool :=
  eqW (mpl M).2.1 (.initialized (minf M).1.cls) &&
  (match (minf M).2.2.2.2.2.1 with
    | 0 => eqW (mpl M).2.2.1 (.static (minf M).1)
    | 1 => eqW (mpl M).2.2.1 (.instanceMethod (minf M).1) && eqW (mpl M).2.2.2 (.selects (minf M).1.cls (minf M).1 (minf M).1) && Nat.ble (minf M).2.2.2.2.2.2 4 && decide (clR (minf M).2.2.2.2.2.2 = (minf M).1.cls)
    | 2 => eqW (mpl M).2.2.1 (.instanceMethod (minf M).1) && decide ((minf M).1.name = "<init>") && decide ((minf M).2.2.2.1 = none)
    | _ => false) &&
  decide ((minf M).1.cls ≠ "java/lang/invoke/MethodHandle") && decide ((minf M).1.cls ≠ "java/lang/invoke/VarHandle") && decide ((parseMethodDescriptor (minf M).1.desc).map (fun d => d.parameters.length) = some ((minf M).2.2.2.2.1 - (match (minf M).2.2.2.2.2.1 with
    | 0 => 0
    | _ => 1))) && Nat.ble (minf M).2.2.1 81 && plainName (minf M).1.cls
def MOK (M : Nat) : Prop := lw_tbl[(mpl M).1]? = some (.code (minf M).1 (minf M).2.1 (minf M).2.2.1 (minf M).2.2.2.1) ∧ chkN M = true
def CB (M : Nat) : Prop := chkB (minf M).1 (minf M).2.1 (minf M).2.2.2.1 0 (nth (nth tab (M / 14) []) (M % 14) []) = true
