-- classes: name, fields in the order of the slots (declaring class, name, descriptor, final), how many
def am_T0 : u_T := fun k => match k with
  | 0 => ("MourningHouse", "reader", "LMourningHouse$Reader;", true)
  | 1 => ("MourningHouse", "page", "LMourningHouse$Page;", true)
  | 2 => ("MourningHouse", "decrees", "LMourningHouse$Decrees;", true)
  | 3 => ("MourningHouse", "family", "LMourningHouse$Family;", true)
  | 4 => ("MourningHouse", "mourner", "LMourningHouse$Mourner;", true)
  | 5 => ("MourningHouse", "wardrobe", "LMourningHouse$Wardrobe;", true)
  | 6 => ("MourningHouse", "planner", "LMourningHouse$Planner;", true)
  | 7 => ("MourningHouse", "deedWho", "[I", true)
  | 8 => ("MourningHouse", "deedAct", "[I", true)
  | 9 => ("MourningHouse", "deedDay", "[I", true)
  | 10 => ("MourningHouse", "allowed", "[I", true)
  | 11 => ("MourningHouse", "deeds", "I", false)
  | _ => ("MourningHouse", "now", "I", false)
def am_T1 : u_T := fun k => match k with
  | 0 => ("MourningHouse$Reader", "bytes", "[C", true)
  | 1 => ("MourningHouse$Reader", "codes", "[I", true)
  | 2 => ("MourningHouse$Reader", "values", "[I", true)
  | 3 => ("MourningHouse$Reader", "size", "I", false)
  | 4 => ("MourningHouse$Reader", "faultLine", "I", false)
  | 5 => ("MourningHouse$Reader", "faultToken", "I", false)
  | 6 => ("MourningHouse$Reader", "faultKind", "I", false)
  | 7 => ("MourningHouse$Reader", "line", "I", false)
  | 8 => ("MourningHouse$Reader", "tokens", "I", false)
  | _ => ("MourningHouse$Reader", "at", "I", false)
def am_T2 : u_T := fun k => match k with
  | 0 => ("MourningHouse$Page", "bytes", "[C", true)
  | _ => ("MourningHouse$Page", "size", "I", false)
def am_T3 : u_T := fun k => match k with
  | 0 => ("MourningHouse$Decrees", "taken", "[LMourningHouse$Law;", true)
  | 1 => ("MourningHouse$Decrees", "orderDays", "[I", true)
  | 2 => ("MourningHouse$Decrees", "orderLengths", "[I", true)
  | 3 => ("MourningHouse$Decrees", "orderDepths", "[I", true)
  | 4 => ("MourningHouse$Decrees", "orderTold", "[I", true)
  | 5 => ("MourningHouse$Decrees", "laws", "I", false)
  | _ => ("MourningHouse$Decrees", "orders", "I", false)
def am_T4 : u_T := fun k => match k with
  | 0 => ("MourningHouse$Law", "kinCounts", "[I", true)
  | 1 => ("MourningHouse$Law", "kinWords", "[I", true)
  | 2 => ("MourningHouse$Law", "partCounts", "[I", true)
  | 3 => ("MourningHouse$Law", "partDepths", "[I", true)
  | 4 => ("MourningHouse$Law", "partNumbers", "[I", true)
  | 5 => ("MourningHouse$Law", "partUnits", "[I", true)
  | 6 => ("MourningHouse$Law", "options", "[I", true)
  | 7 => ("MourningHouse$Law", "feastDates", "[I", true)
  | 8 => ("MourningHouse$Law", "feastDepths", "[I", true)
  | 9 => ("MourningHouse$Law", "mayDepths", "[I", true)
  | 10 => ("MourningHouse$Law", "rules", "I", false)
  | 11 => ("MourningHouse$Law", "feasts", "I", false)
  | 12 => ("MourningHouse$Law", "heirDays", "I", false)
  | 13 => ("MourningHouse$Law", "heirDepth", "I", false)
  | 14 => ("MourningHouse$Law", "underYears", "I", false)
  | 15 => ("MourningHouse$Law", "underDepth", "I", false)
  | 16 => ("MourningHouse$Law", "weddingDepth", "I", false)
  | _ => ("MourningHouse$Law", "takenOn", "I", false)
def am_T5 : u_T := fun k => match k with
  | 0 => ("MourningHouse$Family", "sexes", "[I", true)
  | 1 => ("MourningHouse$Family", "sizes", "[I", true)
  | 2 => ("MourningHouse$Family", "fathers", "[I", true)
  | 3 => ("MourningHouse$Family", "mothers", "[I", true)
  | 4 => ("MourningHouse$Family", "born", "[I", true)
  | 5 => ("MourningHouse$Family", "toldOn", "[I", true)
  | 6 => ("MourningHouse$Family", "died", "[I", true)
  | 7 => ("MourningHouse$Family", "diedKnown", "[I", true)
  | 8 => ("MourningHouse$Family", "parents", "[J", true)
  | 9 => ("MourningHouse$Family", "children", "[J", true)
  | 10 => ("MourningHouse$Family", "siblings", "[J", true)
  | 11 => ("MourningHouse$Family", "husbands", "[I", true)
  | 12 => ("MourningHouse$Family", "wives", "[I", true)
  | 13 => ("MourningHouse$Family", "wedDays", "[I", true)
  | 14 => ("MourningHouse$Family", "wedTold", "[I", true)
  | 15 => ("MourningHouse$Family", "spouses", "[J", true)
  | 16 => ("MourningHouse$Family", "men", "J", false)
  | 17 => ("MourningHouse$Family", "gathered", "J", false)
  | 18 => ("MourningHouse$Family", "people", "I", false)
  | _ => ("MourningHouse$Family", "marriages", "I", false)
def am_T6 : u_T := fun k => match k with
  | 0 => ("MourningHouse$Mourner", "family", "LMourningHouse$Family;", true)
  | 1 => ("MourningHouse$Mourner", "decrees", "LMourningHouse$Decrees;", true)
  | 2 => ("MourningHouse$Mourner", "mournings", "[LMourningHouse$Mourning;", true)
  | 3 => ("MourningHouse$Mourner", "count", "I", false)
  | 4 => ("MourningHouse$Mourner", "who", "I", false)
  | 5 => ("MourningHouse$Mourner", "known", "I", false)
  | 6 => ("MourningHouse$Mourner", "today", "I", false)
  | 7 => ("MourningHouse$Mourner", "changes", "I", false)
  | 8 => ("MourningHouse$Mourner", "firmDepth", "I", false)
  | _ => ("MourningHouse$Mourner", "otherDepth", "I", false)
def am_T7 : u_T := fun k => match k with
  | 0 => ("MourningHouse$Mourning", "ends", "[I", true)
  | 1 => ("MourningHouse$Mourning", "depths", "[I", true)
  | 2 => ("MourningHouse$Mourning", "parts", "I", false)
  | 3 => ("MourningHouse$Mourning", "dead", "I", false)
  | 4 => ("MourningHouse$Mourning", "begin", "I", false)
  | 5 => ("MourningHouse$Mourning", "waits", "Z", false)
  | 6 => ("MourningHouse$Mourning", "firm", "Z", false)
  | 7 => ("MourningHouse$Mourning", "over", "Z", false)
  | 8 => ("MourningHouse$Mourning", "lastDay", "I", false)
  | 9 => ("MourningHouse$Mourning", "gone", "I", false)
  | _ => ("MourningHouse$Mourning", "part", "I", false)
def am_T8 : u_T := fun k => match k with
  | 0 => ("MourningHouse$Wardrobe", "sizes", "[I", true)
  | 1 => ("MourningHouse$Wardrobe", "stuffs", "[I", true)
  | 2 => ("MourningHouse$Wardrobe", "away", "[Z", true)
  | 3 => ("MourningHouse$Wardrobe", "cloths", "[I", true)
  | 4 => ("MourningHouse$Wardrobe", "taskDresses", "[I", true)
  | 5 => ("MourningHouse$Wardrobe", "taskSizes", "[I", true)
  | 6 => ("MourningHouse$Wardrobe", "taskStuffs", "[I", true)
  | 7 => ("MourningHouse$Wardrobe", "taskLeft", "[I", true)
  | 8 => ("MourningHouse$Wardrobe", "dresses", "I", false)
  | 9 => ("MourningHouse$Wardrobe", "tasks", "I", false)
  | 10 => ("MourningHouse$Wardrobe", "hands", "I", false)
  | _ => ("MourningHouse$Wardrobe", "inMaking", "I", false)
def am_T9 : u_T := fun k => match k with
  | 0 => ("MourningHouse$Planner", "wardrobe", "LMourningHouse$Wardrobe;", true)
  | 1 => ("MourningHouse$Planner", "sizes", "[I", true)
  | 2 => ("MourningHouse$Planner", "needs", "[I", true)
  | 3 => ("MourningHouse$Planner", "ways", "[I", true)
  | 4 => ("MourningHouse$Planner", "picks", "[I", true)
  | 5 => ("MourningHouse$Planner", "bestWays", "[I", true)
  | 6 => ("MourningHouse$Planner", "bestPicks", "[I", true)
  | 7 => ("MourningHouse$Planner", "clothsUsed", "[I", true)
  | 8 => ("MourningHouse$Planner", "handDays", "[I", true)
  | 9 => ("MourningHouse$Planner", "count", "I", false)
  | 10 => ("MourningHouse$Planner", "days", "I", false)
  | 11 => ("MourningHouse$Planner", "bestCost", "I", false)
  | _ => ("MourningHouse$Planner", "taken", "J", false)
def am_T10 : u_T := fun k => match k with
  | 0 => ("MourningHouseModel", "text", "[B", true)
  | 1 => ("MourningHouseModel", "textMany", "I", false)
  | 2 => ("MourningHouseModel", "faultLine", "I", false)
  | 3 => ("MourningHouseModel", "faultToken", "I", false)
  | 4 => ("MourningHouseModel", "faultKind", "I", false)
  | 5 => ("MourningHouseModel", "lawDay", "[I", true)
  | 6 => ("MourningHouseModel", "ruleMany", "[I", true)
  | 7 => ("MourningHouseModel", "feastMany", "[I", true)
  | 8 => ("MourningHouseModel", "wordMany", "[[I", true)
  | 9 => ("MourningHouseModel", "stageMany", "[[I", true)
  | 10 => ("MourningHouseModel", "flags", "[[I", true)
  | 11 => ("MourningHouseModel", "words", "[[[I", true)
  | 12 => ("MourningHouseModel", "stages", "[[[I", true)
  | 13 => ("MourningHouseModel", "may", "[[I", true)
  | 14 => ("MourningHouseModel", "feastDay", "[[I", true)
  | 15 => ("MourningHouseModel", "feastDepth", "[[I", true)
  | 16 => ("MourningHouseModel", "heirDays", "[I", true)
  | 17 => ("MourningHouseModel", "heirDepth", "[I", true)
  | 18 => ("MourningHouseModel", "underYears", "[I", true)
  | 19 => ("MourningHouseModel", "underDepth", "[I", true)
  | 20 => ("MourningHouseModel", "weddingDepth", "[I", true)
  | 21 => ("MourningHouseModel", "laws", "I", false)
  | 22 => ("MourningHouseModel", "kinWords", "[Ljava/lang/String;", true)
  | 23 => ("MourningHouseModel", "depthWords", "[Ljava/lang/String;", true)
  | 24 => ("MourningHouseModel", "unitWords", "[Ljava/lang/String;", true)
  | 25 => ("MourningHouseModel", "actWords", "[Ljava/lang/String;", true)
  | 26 => ("MourningHouseModel", "optionWords", "[Ljava/lang/String;", true)
  | 27 => ("MourningHouseModel", "begins", "[I", true)
  | 28 => ("MourningHouseModel", "ends", "[I", true)
  | 29 => ("MourningHouseModel", "kinds", "[I", true)
  | 30 => ("MourningHouseModel", "tokens", "I", false)
  | 31 => ("MourningHouseModel", "line", "I", false)
  | 32 => ("MourningHouseModel", "at", "I", false)
  | 33 => ("MourningHouseModel", "now", "I", false)
  | 34 => ("MourningHouseModel", "sex", "[I", true)
  | 35 => ("MourningHouseModel", "size", "[I", true)
  | 36 => ("MourningHouseModel", "father", "[I", true)
  | 37 => ("MourningHouseModel", "mother", "[I", true)
  | 38 => ("MourningHouseModel", "born", "[I", true)
  | 39 => ("MourningHouseModel", "bornKnown", "[I", true)
  | 40 => ("MourningHouseModel", "died", "[I", true)
  | 41 => ("MourningHouseModel", "diedKnown", "[I", true)
  | 42 => ("MourningHouseModel", "people", "I", false)
  | 43 => ("MourningHouseModel", "wedA", "[I", true)
  | 44 => ("MourningHouseModel", "wedB", "[I", true)
  | 45 => ("MourningHouseModel", "wedDay", "[I", true)
  | 46 => ("MourningHouseModel", "wedKnown", "[I", true)
  | 47 => ("MourningHouseModel", "weddings", "I", false)
  | 48 => ("MourningHouseModel", "courtDay", "[I", true)
  | 49 => ("MourningHouseModel", "courtDays", "[I", true)
  | 50 => ("MourningHouseModel", "courtDepth", "[I", true)
  | 51 => ("MourningHouseModel", "courtKnown", "[I", true)
  | 52 => ("MourningHouseModel", "courts", "I", false)
  | 53 => ("MourningHouseModel", "some", "[Z", true)
  | 54 => ("MourningHouseModel", "next", "[Z", true)
  | 55 => ("MourningHouseModel", "forWhom", "[I", true)
  | 56 => ("MourningHouseModel", "begin", "[I", true)
  | 57 => ("MourningHouseModel", "further", "[I", true)
  | 58 => ("MourningHouseModel", "ruleOf", "[I", true)
  | 59 => ("MourningHouseModel", "lawFor", "[I", true)
  | 60 => ("MourningHouseModel", "lengths", "[[I", true)
  | 61 => ("MourningHouseModel", "isOver", "[Z", true)
  | 62 => ("MourningHouseModel", "entries", "I", false)
  | 63 => ("MourningHouseModel", "who", "I", false)
  | 64 => ("MourningHouseModel", "asKnown", "I", false)
  | 65 => ("MourningHouseModel", "cursor", "I", false)
  | 66 => ("MourningHouseModel", "hasBegun", "Z", false)
  | 67 => ("MourningHouseModel", "deedOf", "[I", true)
  | 68 => ("MourningHouseModel", "deedAct", "[I", true)
  | 69 => ("MourningHouseModel", "deedDay", "[I", true)
  | 70 => ("MourningHouseModel", "deeds", "I", false)
  | 71 => ("MourningHouseModel", "able", "[I", true)
  | 72 => ("MourningHouseModel", "dressSize", "[I", true)
  | 73 => ("MourningHouseModel", "dressStuff", "[I", true)
  | 74 => ("MourningHouseModel", "cloths", "[I", true)
  | 75 => ("MourningHouseModel", "dresses", "I", false)
  | 76 => ("MourningHouseModel", "handMany", "I", false)
  | 77 => ("MourningHouseModel", "taskDress", "[I", true)
  | 78 => ("MourningHouseModel", "taskSize", "[I", true)
  | 79 => ("MourningHouseModel", "taskStuff", "[I", true)
  | 80 => ("MourningHouseModel", "taskLeft", "[I", true)
  | 81 => ("MourningHouseModel", "tasks", "I", false)
  | 82 => ("MourningHouseModel", "asked", "[I", true)
  | 83 => ("MourningHouseModel", "need", "[I", true)
  | 84 => ("MourningHouseModel", "way", "[I", true)
  | 85 => ("MourningHouseModel", "dressFor", "[I", true)
  | 86 => ("MourningHouseModel", "bestWay", "[I", true)
  | 87 => ("MourningHouseModel", "bestDress", "[I", true)
  | 88 => ("MourningHouseModel", "isTaken", "[Z", true)
  | 89 => ("MourningHouseModel", "used", "[I", true)
  | 90 => ("MourningHouseModel", "row", "[I", true)
  | 91 => ("MourningHouseModel", "askedMany", "I", false)
  | 92 => ("MourningHouseModel", "bestBought", "I", false)
  | 93 => ("MourningHouseModel", "bestMade", "I", false)
  | 94 => ("MourningHouseModel", "bestDyed", "I", false)
  | 95 => ("MourningHouseModel", "days", "I", false)
  | 96 => ("MourningHouseModel", "out", "[B", true)
  | 97 => ("MourningHouseModel", "other", "[B", true)
  | 98 => ("MourningHouseModel", "outMany", "I", false)
  | _ => ("MourningHouseModel", "told", "I", false)
def am_T11 : u_T := fun k => match k with
  | 0 => ("java/lang/String", "value", "[B", true)
  | _ => ("java/lang/String", "coder", "B", true)
def am_T12 : u_T := fun k => match k with
  | 0 => ("java/lang/AbstractStringBuilder", "value", "[B", false)
  | 1 => ("java/lang/AbstractStringBuilder", "coder", "B", false)
  | 2 => ("java/lang/AbstractStringBuilder", "maybeLatin1", "Z", false)
  | _ => ("java/lang/AbstractStringBuilder", "count", "I", false)
def am_cl : List vw_C := [("MourningHouse", am_T0, 13), ("MourningHouse$Reader", am_T1, 10), ("MourningHouse$Page", am_T2, 2), ("MourningHouse$Decrees", am_T3, 7), ("MourningHouse$Law", am_T4, 18), ("MourningHouse$Family", am_T5, 20), ("MourningHouse$Mourner", am_T6, 10), ("MourningHouse$Mourning", am_T7, 11), ("MourningHouse$Wardrobe", am_T8, 12), ("MourningHouse$Planner", am_T9, 13), ("MourningHouseModel", am_T10, 100), ("java/lang/String", am_T11, 2), ("java/lang/StringBuilder", am_T12, 4)]
/-- a field's kind: 0 int, 1 long, 2 reference, 3 boolean, 4 byte -/
def am_fl : List (List Nat) := [[2, 2, 2, 2, 2, 2, 2, 2, 2, 2, 2, 0, 0], [2, 2, 2, 0, 0, 0, 0, 0, 0, 0], [2, 0], [2, 2, 2, 2, 2, 0, 0], [2, 2, 2, 2, 2, 2, 2, 2, 2, 2, 0, 0, 0, 0, 0, 0, 0, 0], [2, 2, 2, 2, 2, 2, 2, 2, 2, 2, 2, 2, 2, 2, 2, 2, 1, 1, 0, 0], [2, 2, 2, 0, 0, 0, 0, 0, 0, 0], [2, 2, 0, 0, 0, 3, 3, 3, 0, 0, 0], [2, 2, 2, 2, 2, 2, 2, 2, 0, 0, 0, 0], [2, 2, 2, 2, 2, 2, 2, 2, 2, 0, 0, 0, 1], [2, 0, 0, 0, 0, 2, 2, 2, 2, 2, 2, 2, 2, 2, 2, 2, 2, 2, 2, 2, 2, 0, 2, 2, 2, 2, 2, 2, 2, 2, 0, 0, 0, 0, 2, 2, 2, 2, 2, 2, 2, 2, 0, 2, 2, 2, 2, 0, 2, 2, 2, 2, 0, 2, 2, 2, 2, 2, 2, 2, 2, 2, 0, 0, 0, 0, 3, 2, 2, 2, 0, 2, 2, 2, 2, 0, 0, 2, 2, 2, 2, 0, 2, 2, 2, 2, 2, 2, 2, 2, 2, 0, 0, 0, 0, 0, 2, 2, 0, 0], [2, 4], [2, 4, 3, 0]]
def am_fT (ci k : Nat) : Nat := (am_fl.getD ci []).getD k 9
def am_nF (ci : Nat) : Nat := (am_fl.getD ci []).length
def am_ix : List (List Nat) := [[582, 584, 586, 588, 590, 592, 594, 596, 598, 600, 602, 604, 606], [164, 166, 168, 170, 172, 174, 176, 178, 180, 182], [197, 199], [294, 296, 298, 300, 302, 304, 306], [248, 250, 252, 254, 256, 258, 260, 262, 264, 266, 268, 270, 272, 274, 276, 278, 280, 282], [344, 346, 348, 350, 352, 354, 356, 358, 360, 362, 364, 366, 368, 370, 372, 374, 376, 378, 380, 382], [448, 450, 452, 454, 456, 458, 460, 462, 464, 466], [415, 417, 419, 421, 423, 425, 427, 429, 431, 433, 435], [497, 499, 501, 503, 505, 507, 509, 511, 513, 515, 517, 519], [542, 544, 546, 548, 550, 552, 554, 556, 558, 560, 562, 564, 566], [1649, 1651, 1653, 1655, 1657, 1659, 1661, 1663, 1665, 1667, 1669, 1671, 1673, 1675, 1677, 1679, 1681, 1683, 1685, 1687, 1689, 1691, 1693, 1695, 1697, 1699, 1701, 1703, 1705, 1707, 1709, 1711, 1713, 1715, 1717, 1719, 1721, 1723, 1725, 1727, 1729, 1731, 1733, 1735, 1737, 1739, 1741, 1743, 1745, 1747, 1749, 1751, 1753, 1755, 1757, 1759, 1761, 1763, 1765, 1767, 1769, 1771, 1773, 1775, 1777, 1779, 1781, 1783, 1785, 1787, 1789, 1791, 1793, 1795, 1797, 1799, 1801, 1803, 1805, 1807, 1809, 1811, 1813, 1815, 1817, 1819, 1821, 1823, 1825, 1827, 1829, 1831, 1833, 1835, 1837, 1839, 1841, 1843, 1845, 1847], [2465, 2467], [2285, 2287, 2289, 2291]]
def am_fty (k : Nat) (ty : FieldType) : Bool := match k with
  | 0 => decide (ty = .int)
  | 1 => decide (ty = .long)
  | 2 => ty.isReference
  | 3 => decide (ty = .boolean)
  | 4 => decide (ty = .byte)
  | _ => false
def am_TW : List Cond := lw_tbl.filter goodWord
theorem am_tw {w : Cond} (i : Nat) (h : lw_tbl[i]? = some w) (g : goodWord w = true) : w ∈ am_TW := List.mem_filter.mpr ⟨List.mem_of_getElem? h, g⟩
theorem am_good : ∀ w ∈ am_TW, goodWord w = true := fun w h => (List.mem_filter.mp h).2
/-- what a program finds of each class: its fields' kinds, their names apart, their words in the tables -/
def am_clok (ci : Nat) (q : vw_C) : Bool := decide ((am_fl.getD ci []).length = q.2.2) && (List.range q.2.2).all (fun k => (match parseFieldDescriptor (q.2.1 k).2.2.1 with | some ty => am_fty (am_fT ci k) ty | none => false) && (List.range q.2.2).all (fun j => decide (j = k) || decide ((q.2.1 j).2.1 ≠ (q.2.1 k).2.1)))
def am_lays (ci : Nat) (q : vw_C) : Bool := (List.range q.2.2).all (fun k => decide (lw_tbl[(am_ix.getD ci []).getD k 0]? = some (u_lay q.1 q.2.1 k)) && goodWord (u_lay q.1 q.2.1 k))
theorem am_ck : ∀ ci, ci < 13 → (match am_cl[ci]? with | some q => am_clok ci q | none => false) = true := by decide +kernel
theorem am_ly0 : (match am_cl[0]? with | some q => am_lays 0 q | none => false) = true := by decide +kernel
theorem am_ly1 : (match am_cl[1]? with | some q => am_lays 1 q | none => false) = true := by decide +kernel
theorem am_ly2 : (match am_cl[2]? with | some q => am_lays 2 q | none => false) = true := by decide +kernel
theorem am_ly3 : (match am_cl[3]? with | some q => am_lays 3 q | none => false) = true := by decide +kernel
theorem am_ly4 : (match am_cl[4]? with | some q => am_lays 4 q | none => false) = true := by decide +kernel
theorem am_ly5 : (match am_cl[5]? with | some q => am_lays 5 q | none => false) = true := by decide +kernel
theorem am_ly6 : (match am_cl[6]? with | some q => am_lays 6 q | none => false) = true := by decide +kernel
theorem am_ly7 : (match am_cl[7]? with | some q => am_lays 7 q | none => false) = true := by decide +kernel
theorem am_ly8 : (match am_cl[8]? with | some q => am_lays 8 q | none => false) = true := by decide +kernel
theorem am_ly9 : (match am_cl[9]? with | some q => am_lays 9 q | none => false) = true := by decide +kernel
theorem am_ly10 : (match am_cl[10]? with | some q => am_lays 10 q | none => false) = true := by decide +kernel
theorem am_ly11 : (match am_cl[11]? with | some q => am_lays 11 q | none => false) = true := by decide +kernel
theorem am_ly12 : (match am_cl[12]? with | some q => am_lays 12 q | none => false) = true := by decide +kernel
theorem am_clok_of {ci : Nat} {C : String} {T : u_T} {N : Nat} (h : am_cl[ci]? = some (C, T, N)) : am_clok ci (C, T, N) = true := by
  have hl : ci < 13 := (List.getElem?_eq_some_iff.mp h).1
  have q := am_ck ci hl
  rw [h] at q
  exact q
theorem am_lays_of {ci : Nat} {C : String} {T : u_T} {N : Nat} (h : am_cl[ci]? = some (C, T, N)) : am_lays ci (C, T, N) = true := by
  have hl : ci < 13 := (List.getElem?_eq_some_iff.mp h).1
  rcases (show ci = 0 ∨ ci = 1 ∨ ci = 2 ∨ ci = 3 ∨ ci = 4 ∨ ci = 5 ∨ ci = 6 ∨ ci = 7 ∨ ci = 8 ∨ ci = 9 ∨ ci = 10 ∨ ci = 11 ∨ ci = 12 by omega) with rfl | rfl | rfl | rfl | rfl | rfl | rfl | rfl | rfl | rfl | rfl | rfl | rfl
  · have q := am_ly0
    rw [h] at q
    exact q
  · have q := am_ly1
    rw [h] at q
    exact q
  · have q := am_ly2
    rw [h] at q
    exact q
  · have q := am_ly3
    rw [h] at q
    exact q
  · have q := am_ly4
    rw [h] at q
    exact q
  · have q := am_ly5
    rw [h] at q
    exact q
  · have q := am_ly6
    rw [h] at q
    exact q
  · have q := am_ly7
    rw [h] at q
    exact q
  · have q := am_ly8
    rw [h] at q
    exact q
  · have q := am_ly9
    rw [h] at q
    exact q
  · have q := am_ly10
    rw [h] at q
    exact q
  · have q := am_ly11
    rw [h] at q
    exact q
  · have q := am_ly12
    rw [h] at q
    exact q
theorem am_nF_of {ci : Nat} {C : String} {T : u_T} {N : Nat} (h : am_cl[ci]? = some (C, T, N)) : am_nF ci = N := by
  have q := am_clok_of h
  unfold am_clok at q
  simp only [Bool.and_eq_true, decide_eq_true_eq] at q
  exact q.1
/-- a class's words are the tables' -/
theorem am_in {ci : Nat} {C : String} {T : u_T} {N : Nat} (h : am_cl[ci]? = some (C, T, N)) : ∀ w ∈ u_ws C T N, w ∈ am_TW := by
  intro w hw
  obtain ⟨k, hk, rfl⟩ := List.mem_map.mp hw
  have q := am_lays_of h
  unfold am_lays at q
  have q2 := List.all_eq_true.mp q k hk
  simp only [Bool.and_eq_true, decide_eq_true_eq] at q2
  exact am_tw _ q2.1 q2.2
theorem am_fty_of {ci : Nat} {C : String} {T : u_T} {N : Nat} (h : am_cl[ci]? = some (C, T, N)) {k : Nat} (hk : k < N) : ∃ ty, parseFieldDescriptor (T k).2.2.1 = some ty ∧ am_fty (am_fT ci k) ty = true := by
  have q := am_clok_of h
  unfold am_clok at q
  simp only [Bool.and_eq_true] at q
  have q2 := List.all_eq_true.mp q.2 k (List.mem_range.mpr hk)
  simp only [Bool.and_eq_true] at q2
  cases hp : parseFieldDescriptor (T k).2.2.1 with
  | none => rw [hp] at q2; exact Bool.noConfusion q2.1
  | some ty => rw [hp] at q2; exact ⟨ty, rfl, q2.1⟩
/-- the type of a field, as its descriptor says -/
def am_tyo (T : u_T) (k : Nat) : FieldType := (parseFieldDescriptor (T k).2.2.1).getD .int
theorem am_tyo_ok {ci : Nat} {C : String} {T : u_T} {N : Nat} (h : am_cl[ci]? = some (C, T, N)) : ∀ k, k < N → parseFieldDescriptor (T k).2.2.1 = some (am_tyo T k) := by
  intro k hk
  obtain ⟨ty, h1, -⟩ := am_fty_of h hk
  unfold am_tyo
  rw [h1]
  rfl
theorem am_tyo_ft {ci : Nat} {C : String} {T : u_T} {N : Nat} (h : am_cl[ci]? = some (C, T, N)) {k : Nat} (hk : k < N) : am_fty (am_fT ci k) (am_tyo T k) = true := by
  obtain ⟨ty, h1, h2⟩ := am_fty_of h hk
  unfold am_tyo
  rw [h1]
  exact h2
theorem am_nm {ci : Nat} {C : String} {T : u_T} {N : Nat} (h : am_cl[ci]? = some (C, T, N)) : ∀ a, a < N → ∀ b, b < N → a ≠ b → (T a).2.1 ≠ (T b).2.1 := by
  intro a ha b hb hab
  have q := am_clok_of h
  unfold am_clok at q
  simp only [Bool.and_eq_true] at q
  have q2 := List.all_eq_true.mp q.2 b (List.mem_range.mpr hb)
  simp only [Bool.and_eq_true] at q2
  have q3 := List.all_eq_true.mp q2.2 a (List.mem_range.mpr ha)
  simp only [Bool.or_eq_true, decide_eq_true_eq] at q3
  exact q3.resolve_left hab
def am_ldcs : List (String × Nat × String × Nat) := [("MourningHouse$Words", 19, "spouse", 0), ("MourningHouse$Words", 21, "husband", 1), ("MourningHouse$Words", 23, "wife", 2), ("MourningHouse$Words", 25, "child", 3), ("MourningHouse$Words", 27, "son", 4), ("MourningHouse$Words", 29, "daughter", 5), ("MourningHouse$Words", 31, "parent", 6), ("MourningHouse$Words", 33, "father", 7), ("MourningHouse$Words", 35, "mother", 8), ("MourningHouse$Words", 37, "sibling", 9), ("MourningHouse$Words", 39, "brother", 10), ("MourningHouse$Words", 41, "sister", 11), ("MourningHouse$Words", 43, "colours", 12), ("MourningHouse$Words", 45, "lilac", 13), ("MourningHouse$Words", 47, "grey", 14), ("MourningHouse$Words", 49, "black", 15), ("MourningHouse$Words", 51, "crape", 16), ("MourningHouse$Words", 53, "days", 17), ("MourningHouse$Words", 55, "weeks", 18), ("MourningHouse$Words", 57, "months", 19), ("MourningHouse$Words", 59, "years", 20), ("MourningHouse$Words", 61, "call", 21), ("MourningHouse$Words", 63, "dine", 22), ("MourningHouse$Words", 65, "dance", 23), ("MourningHouse$Words", 67, "wed", 24), ("MourningHouse$Words", 69, "men", 25), ("MourningHouse$Words", 71, "wait", 26), ("MourningHouse$Words", 73, "firm", 27), ("MourningHouse$Words", 75, "news", 28), ("MourningHouse$Words", 77, "half", 29), ("MourningHouse$Words", 79, "for", 30), ("MourningHouse$Words", 81, "of", 31), ("MourningHouse$Words", 83, "may", 32), ("MourningHouse$Words", 85, "from", 33), ("MourningHouse$Words", 87, "feast", 34), ("MourningHouse$Words", 89, "to", 35), ("MourningHouse$Words", 91, "heir", 36), ("MourningHouse$Words", 93, "under", 37), ("MourningHouse$Words", 95, "wedding", 38), ("MourningHouse$Words", 97, "ends", 39), ("MourningHouse$Law", 89, " ", 40), ("MourningHouse$Law", 91, " of ", 41), ("MourningHouse$Law", 100, ": ", 42), ("MourningHouse$Law", 102, ", ", 43), ("MourningHouse$Law", 111, "; ", 44), ("MourningHouse$Law", 113, " half", 45), ("MourningHouse$Law", 115, "", 46), ("MourningHouseModel", 68, "spouse", 47), ("MourningHouseModel", 70, "husband", 48), ("MourningHouseModel", 72, "wife", 49), ("MourningHouseModel", 74, "child", 50), ("MourningHouseModel", 76, "son", 51), ("MourningHouseModel", 78, "daughter", 52), ("MourningHouseModel", 80, "parent", 53), ("MourningHouseModel", 82, "father", 54), ("MourningHouseModel", 84, "mother", 55), ("MourningHouseModel", 86, "sibling", 56), ("MourningHouseModel", 88, "brother", 57), ("MourningHouseModel", 90, "sister", 58), ("MourningHouseModel", 96, "colours", 59), ("MourningHouseModel", 98, "lilac", 60), ("MourningHouseModel", 100, "grey", 61), ("MourningHouseModel", 102, "black", 62), ("MourningHouseModel", 104, "crape", 63), ("MourningHouseModel", 109, "days", 64), ("MourningHouseModel", 111, "weeks", 65), ("MourningHouseModel", 113, "months", 66), ("MourningHouseModel", 115, "years", 67), ("MourningHouseModel", 120, "call", 68), ("MourningHouseModel", 122, "dine", 69), ("MourningHouseModel", 124, "dance", 70), ("MourningHouseModel", 126, "wed", 71), ("MourningHouseModel", 131, "men", 72), ("MourningHouseModel", 133, "wait", 73), ("MourningHouseModel", 135, "firm", 74), ("MourningHouseModel", 137, "news", 75), ("MourningHouseModel", 423, "for", 76), ("MourningHouseModel", 398, "of", 77), ("MourningHouseModel", 390, "half", 78), ("MourningHouseModel", 428, "feast", 79), ("MourningHouseModel", 408, "to", 80), ("MourningHouseModel", 410, "may", 81), ("MourningHouseModel", 411, "from", 82), ("MourningHouseModel", 413, "heir", 83), ("MourningHouseModel", 415, "under", 84), ("MourningHouseModel", 417, "wedding", 85), ("MourningHouseModel", 419, "ends", 86), ("MourningHouseModel", 641, ":", 87), ("MourningHouseModel", 643, ",", 88), ("MourningHouseModel", 648, "", 89), ("MourningHouseModel", 661, ";", 90)]
def am_nst : List (String × Nat × MethodName × String) := [("MourningHouse", 9, ⟨"MourningHouse$Reader", "<init>", "()V"⟩, "MourningHouse"), ("MourningHouse", 18, ⟨"MourningHouse$Page", "<init>", "()V"⟩, "MourningHouse"), ("MourningHouse$Decrees", 35, ⟨"MourningHouse$Law", "<init>", "()V"⟩, "MourningHouse"), ("MourningHouse", 32, ⟨"MourningHouse$Family", "<init>", "()V"⟩, "MourningHouse"), ("MourningHouse$Mourner", 49, ⟨"MourningHouse$Mourning", "<init>", "()V"⟩, "MourningHouse"), ("MourningHouse", 48, ⟨"MourningHouse$Wardrobe", "<init>", "()V"⟩, "MourningHouse")]
