/** The edges of promises 23 to 25: declared, kinds, next. */
public final class EdgesOfWhoTest {
  public static void main(String[] args) {
    Due due = new Due();
    declaredLandedOrNot(due);
    declaredSizes(due);
    declaredUnlike(due);
    declaredRefused(due);
    kindsNoughtToEightPairs(due);
    kindsSums(due);
    kindsBehindThoseAhead(due);
    kindsAllElseAsItIs(due);
    nextIsTheFirst(due);
    nextIsNow(due);
    nextIsOneOfSeven(due);
    nextNone(due);
    pairsOfOtherSizes(due);
    pairsUnlike(due);
    whatWasBehindIsGone(due);
    pairsRefused(due);
    due.end();
  }

  // ---- 23

  private static void declaredIs(Due due, String signs, int bits, int... told) {
    Edge e = Edge.ferryAnd(due, signs, x -> Due.row(x, 0, told));
    e.aside("declared by " + signs + " to " + java.util.Arrays.toString(told), bits, x -> x.declared(0, 0));
  }

  /** "LANDED or not": what can't be leaves the THINGS as they are, and these may be the told ones. */
  private static void declaredLandedOrNot(Due due) {
    int more = 2 + 8 + 32;
    int less = 4 + 16 + 64;
    declaredIs(due, "p9990", 1 + more, 9, 9, 9);
    declaredIs(due, "p0000", 1 + less, 0, 0, 0);
    declaredIs(due, "b8880", 1 + more, 8, 8, 8);
    declaredIs(due, "b1110", 1 + less, 1, 1, 1);
    declaredIs(due, "b7770", 1, 7, 7, 7);
    declaredIs(due, "b2220", 1, 2, 2, 2);
    declaredIs(due, "b7770", 2, 9, 7, 7);
    declaredIs(due, "b2220", 4, 0, 2, 2);
    declaredIs(due, "l9990", 1 + less, 9, 9, 9);
    declaredIs(due, "l0000", 1 + more, 0, 0, 0);
    declaredIs(due, "c5550", 1, 5, 5, 5);
    declaredIs(due, "w5590", 1 + 8, 5, 5, 9);
    declaredIs(due, "w9550", 1 + 32, 9, 5, 5);
    declaredIs(due, "s8550", 1 + 2, 8, 5, 5);
    declaredIs(due, "p5550", 127, -1, -1, -1);
    declaredIs(due, "p0000", 127, -1, -1, -1);
    declaredIs(due, "p5550", 0, 5, 5, 7);
    declaredIs(due, "p5550", 0, 6, 6, 5);
    declaredIs(due, "p8550", 2, 9, -1, -1);
    declaredIs(due, "p1550", 4, 0, -1, -1);
    Edge odd = Edge.ferryAnd(due, "s8550p5550", x -> {
      x.cross(1, 0);
      Due.row(x, 0, 9, 5, 5);
    });
    odd.aside("a SAILOR in an odd CROSSING", 2, x -> x.declared(0, 0));
  }

  /** "(3 ints, -1 .. 9)": "SIZE", ahead of UNLIKE. */
  private static void declaredSizes(Due due) {
    Edge.busyAnd(due, x -> x.row(0, 0)).finds("declared by no ints", Edge.SIZE, x -> x.declared(0, 0));
    for (int n : new int[] {1, 2, 4, 40}) {
      Edge e = Edge.busyAnd(due, x -> {
        x.row(0, n);
        x.lay(0, 0, 10);
      });
      e.finds("declared by " + n + " ints", Edge.SIZE, x -> x.declared(0, 0));
    }
  }

  private static void declaredUnlike(Due due) {
    for (int place = 0; place <= 2; place++) {
      int at = place;
      for (int v : Edge.outside(-1, 9)) {
        Edge e = Edge.busyAnd(due, x -> {
          Due.row(x, 0, -1, -1, -1);
          x.lay(0, at, v);
        });
        e.finds("declared by " + v + " at " + at, Edge.UNLIKE, x -> x.declared(0, 0));
      }
    }
  }

  private static void declaredRefused(Due due) {
    Edge e = Edge.busyAnd(due, x -> {
      Due.row(x, 0, -1, -1, -1);
      Due.row(x, 5, -1, -1, -1);
      Due.row(x, 1, 10, 10);
    });
    e.aside("declared(5, 5)", 127, x -> x.declared(5, 5));
    e.finds("declared(0, 2)", Edge.NOTHING, x -> x.declared(0, 2));
    for (int i : Edge.outside(0, 5)) {
      e.refused("declared(" + i + ", 0)", Edge.BAD, x -> x.declared(i, 0));
      e.refused("declared(" + i + ", 2): BAD ahead of NOTHING", Edge.BAD, x -> x.declared(i, 2));
      e.refused("declared(" + i + ", 1): BAD ahead of SIZE", Edge.BAD, x -> x.declared(i, 1));
    }
    for (int r : Edge.outside(0, 5)) {
      e.refused("declared(0, " + r + ")", Edge.BAD, x -> x.declared(0, r));
    }
  }

  // ---- 24

  private static void kindsAre(Due due, String signs, int bits, int... pairs) {
    Edge e = Edge.ferryAnd(due, signs, x -> Due.row(x, 0, pairs));
    e.aside("kinds of " + signs + " by " + java.util.Arrays.toString(pairs), bits, x -> x.kinds(0, 0));
  }

  /** "a ROW of 0 to 8 pairs": the last of eight counts. */
  private static void kindsNoughtToEightPairs(Due due) {
    kindsAre(due, "p5550", 63);
    kindsAre(due, "p5550", 1 + 8, 1, 16);
    kindsAre(due, "p5550", 63, 0, 15, 0, 15, 0, 15, 0, 15, 0, 15, 0, 15, 0, 15, 0, 15);
    // CROSSING 7 is odd: a SAILOR's comes to 1 more.
    kindsAre(due, "p5550", 1 + 8 + 16, 0, 15, 0, 15, 0, 15, 0, 15, 0, 15, 0, 15, 0, 15, 1, 16);
    kindsAre(due, "p5550", 2, 0, 15, 0, 15, 0, 15, 0, 15, 0, 15, 0, 15, 0, 15, 1, 17);
    kindsAre(due, "p5550", 0, 0, 15, 0, 15, 0, 15, 0, 15, 0, 15, 0, 15, 0, 15, 0, 16);
    kindsAre(due, "p5550", 0, 0, 16, 0, 15, 0, 15, 0, 15, 0, 15, 0, 15, 0, 15, 0, 15);
  }

  /** "its THINGS together then, 0 .. 27". */
  private static void kindsSums(Due due) {
    kindsAre(due, "p0000", 63, 0, 0);
    kindsAre(due, "p0000", 0, 0, 27);
    kindsAre(due, "p9990", 63, 0, 27);
    kindsAre(due, "p9990", 0, 0, 0);
    kindsAre(due, "p0000", 1 + 2 + 8 + 16, 2, 0);
    kindsAre(due, "p0000", 4 + 32, 1, 0);
    kindsAre(due, "p9990", 1 + 2 + 8 + 16, 1, 27);
    kindsAre(due, "p9990", 4 + 32, 2, 27);
    kindsAre(due, "p1000", 1, 2, 0);
    kindsAre(due, "p8990", 1, 1, 27);
    kindsAre(due, "p7990", 2 + 16, 1, 27);
  }

  /** "made behind those ahead": the second pair goes on from what the first one left. */
  private static void kindsBehindThoseAhead(Due due) {
    kindsAre(due, "p8550", 1, 1, 19, 1, 19);
    kindsAre(due, "p8550", 8, 1, 19, 1, 20);
    kindsAre(due, "p8550", 2, 1, 18, 1, 18);
    kindsAre(due, "p8550", 16, 1, 18, 1, 19);
    kindsAre(due, "p1550", 4 + 32, 1, 10, 1, 10);
  }

  /** "all else as it is": of whichever KIND it is, on either BANK, in the next CROSSING. */
  private static void kindsAllElseAsItIs(Due due) {
    for (String letter : new String[] {"p", "b", "l", "w", "s", "c"}) {
      for (int bank = 0; bank <= 1; bank++) {
        kindsAre(due, letter + "555" + bank, 2 + 16, 1, 17);
        int on = bank;
        Edge odd = Edge.ferryAnd(due, letter + "555" + on + "p5550", x -> {
          x.cross(1, 0);
          Due.row(x, 0, 1, 17);
        });
        odd.aside("kinds in an odd CROSSING", 2, x -> x.kinds(0, 0));
      }
    }
  }

  // ---- 25

  private static void nextIs(Due due, String signs, int declaration, int part, int... pairs) {
    Edge e = Edge.ferryAnd(due, signs, x -> Due.row(x, 0, pairs));
    e.told("next of " + signs + " by " + java.util.Arrays.toString(pairs), declaration, part, x -> x.next(0, 0));
  }

  /** "(the first)", "the greatest part .. is least": one KIND alone is told apart by None already. */
  private static void nextIsTheFirst(Due due) {
    nextIs(due, "p5550", 0, 1, 1, 17, 1, 18);
    nextIs(due, "p5550", 1, 2);
    // 000: less can't be but for LIARS and CLERKS: 4 and 2; more: 2 (PASSENGER, WIDOWER), 2, 2.
    nextIs(due, "p0000", 1, 2);
    nextIs(due, "p9990", 2, 2);
    // A PASSENGER or a WIDOWER: told apart where one of them comes to a 9, and the other does not.
    nextIs(due, "p5590", 1, 2);
    nextIs(due, "p5590", 3, 1, 1, 20);
    nextIs(due, "p9550", 1, 1, 3, 20);
    nextIs(due, "p5950", 1, 1, 5, 20);
    // Two that no DECLARATION tells apart now.
    nextIs(due, "p5550", 0, 2, 1, 16);
    nextIs(due, "p5550", 0, 2, 1, 14);
    nextIs(due, "p5550", 0, 2, 1, 17);
  }

  /** "to make now": from the PASSENGER and the CROSSING as they are. */
  private static void nextIsNow(Due due) {
    // A BRIDE or a SAILOR: in an even CROSSING alike; in an odd one (0 behind one) told apart by 1.
    nextIs(due, "p5550", 0, 2, 1, 17);
    Edge odd = Edge.ferryAnd(due, "p5550p5550", x -> {
      x.cross(1, 0);
      Due.row(x, 0);
    });
    odd.told("next in an odd CROSSING", 1, 3, x -> x.next(0, 0));
    Edge both = Edge.ferryAnd(due, "p5550p5550", x -> {
      x.cross(1, 0);
      Due.row(x, 0, 0, 15, 1, 17);
    });
    both.told("a BRIDE or a SAILOR, next in an odd CROSSING", 1, 1, x -> x.next(0, 0));
  }

  /** DECLARATIONS 0 .. 6, and no other: one of a THING behind 2 would tell these three apart. */
  private static void nextIsOneOfSeven(Due due) {
    Edge e = Edge.ferryAnd(due, "p8970p5550", x -> {
      x.cross(1, 0);
      Due.row(x, 0, 0, 24, 1, 24);
    });
    e.aside("a BRIDE, a WIDOWER or a SAILOR", 2 + 8 + 16, x -> x.kinds(0, 0));
    e.told("next of these three", 1, 2, x -> x.next(0, 0));
  }

  /** "NONE: there is no KIND": and asked() stays. */
  private static void nextNone(Due due) {
    Edge e = Edge.busyAnd(due, x -> {
      Due.row(x, 0, 0, 27);
      x.at(4, 0);
    });
    for (int i = 0; i <= 5; i++) {
      int one = i;
      e.refused("next(" + i + ", 0) of no KIND", Edge.NONE, x -> x.next(one, 0));
      e.aside("kinds(" + i + ", 0) of no KIND", 0, x -> x.kinds(one, 0));
    }
  }

  // ---- both

  /** "SIZE": more than 8 pairs, half a pair; ahead of UNLIKE. */
  private static void pairsOfOtherSizes(Due due) {
    for (int n : new int[] {1, 3, 15, 17, 18, 39, 40}) {
      Edge e = Edge.busyAnd(due, x -> {
        x.row(0, n);
        x.lay(0, 0, 7);
      });
      e.finds("kinds by " + n + " ints", Edge.SIZE, x -> x.kinds(0, 0));
      e.finds("next by " + n + " ints", Edge.SIZE, x -> x.next(0, 0));
    }
    Edge none = Edge.busyAnd(due, x -> x.row(0, 0));
    none.aside("kinds by no ints", 63, x -> x.kinds(0, 0));
    none.taken("next by no ints", 1, x -> x.next(0, 0));
    Edge most = Edge.ferryAnd(due, "p0000", x -> x.row(0, 16));
    most.aside("kinds by 16 ints", 63, x -> x.kinds(0, 0));
    most.told("next by 16 ints", 1, 2, x -> x.next(0, 0));
  }

  private static void bothUnlike(Due due, int place, int v) {
    Edge e = Edge.busyAnd(due, x -> {
      x.row(0, 16);
      x.lay(0, place, v);
    });
    e.finds("kinds by " + v + " at " + place, Edge.UNLIKE, x -> x.kinds(0, 0));
    e.finds("next by " + v + " at " + place, Edge.UNLIKE, x -> x.next(0, 0));
  }

  /** "UNLIKE": a DECLARATION that is not 0 .. 6, THINGS together that are not 0 .. 27; first and last pair. */
  private static void pairsUnlike(Due due) {
    for (int c : Edge.outside(0, 6)) {
      bothUnlike(due, 0, c);
      bothUnlike(due, 14, c);
    }
    for (int sum : Edge.outside(0, 27)) {
      bothUnlike(due, 1, sum);
      bothUnlike(due, 15, sum);
    }
    Edge ends = Edge.ferryAnd(due, "p9990", x -> Due.row(x, 0, 0, 27, 6, 27, 6, 0));
    ends.aside("0, 6 and 0, 27 are taken", 0, x -> x.kinds(0, 0));
    ends.refused("0, 6 and 0, 27 are taken by next", Edge.NONE, x -> x.next(0, 0));
  }

  /** A ROW made anew is no longer than it is: what it was beyond that is not looked at. */
  private static void whatWasBehindIsGone(Due due) {
    Edge e = Edge.ferryAnd(due, "p0000", x -> {
      x.row(0, 40);
      for (int k = 0; k < 40; k++) {
        x.lay(0, k, 99);
      }
      x.row(0, 2);
      x.row(1, 40);
      for (int k = 0; k < 40; k++) {
        x.lay(1, k, 99);
      }
      x.row(1, 3);
    });
    e.aside("kinds by 2 ints that were 40", 63, x -> x.kinds(0, 0));
    e.told("next by 2 ints that were 40", 1, 2, x -> x.next(0, 0));
    e.aside("declared by 3 ints that were 40", 1 + 4 + 16 + 64, x -> x.declared(0, 1));
    Edge most = Edge.ferryAnd(due, "p0000", x -> {
      x.row(0, 40);
      x.lay(0, 16, 99);
      x.row(0, 16);
    });
    most.aside("kinds by 16 ints that were 40", 63, x -> x.kinds(0, 0));
  }

  private static void pairsRefused(Due due) {
    Edge e = Edge.busyAnd(due, x -> {
      x.row(0, 0);
      x.row(5, 0);
      x.row(1, 1);
    });
    e.aside("kinds(5, 5)", 63, x -> x.kinds(5, 5));
    e.taken("next(5, 5)", 1, x -> x.next(5, 5));
    e.finds("kinds(0, 2)", Edge.NOTHING, x -> x.kinds(0, 2));
    e.finds("next(0, 2)", Edge.NOTHING, x -> x.next(0, 2));
    for (int i : Edge.outside(0, 5)) {
      e.refused("kinds(" + i + ", 0)", Edge.BAD, x -> x.kinds(i, 0));
      e.refused("next(" + i + ", 0)", Edge.BAD, x -> x.next(i, 0));
      e.refused("kinds(" + i + ", 2): BAD ahead of NOTHING", Edge.BAD, x -> x.kinds(i, 2));
      e.refused("next(" + i + ", 2): BAD ahead of NOTHING", Edge.BAD, x -> x.next(i, 2));
      e.refused("kinds(" + i + ", 1): BAD ahead of SIZE", Edge.BAD, x -> x.kinds(i, 1));
      e.refused("next(" + i + ", 1): BAD ahead of SIZE", Edge.BAD, x -> x.next(i, 1));
    }
    for (int r : Edge.outside(0, 5)) {
      e.refused("kinds(0, " + r + ")", Edge.BAD, x -> x.kinds(0, r));
      e.refused("next(0, " + r + ")", Edge.BAD, x -> x.next(0, r));
    }
  }
}
