/** The edges of promises 19 to 22: changes, run, fewest, lives. */
public final class EdgesOfAsideTest {

  public static void main(String[] args) {
    Due due = new Due();
    changesRefused(due);
    changesOfNone(due);
    changesWhetherItCanBe(due);
    changesByNumbers(due);
    runSizes(due);
    runUnlike(due);
    runRefused(due);
    runBehindFortyDeeds(due);
    fewestNoughtToFour(due);
    fewestByNone(due);
    fewestAsTheyWill(due);
    fewestBanks(due);
    fewestIsTheFirst(due);
    fewestToARow(due);
    fewestSizes(due);
    fewestUnlike(due);
    fewestBad(due);
    livesNumbers(due);
    livesInCorners(due);
    due.end();
  }

  // ---- 19

  /** "a CROSSING of a number (0 .. 99)"; "BAD: -100". */
  private static void changesRefused(Due due) {
    Edge e = Edge.busyAnd(due, x -> { });
    e.told("changes(1, 5, 0)", 2, 2, x -> x.changes(1, 5, 0));
    e.told("changes(1, 6, 99)", -2, 2, x -> x.changes(1, 6, 99));
    e.told("changes(0, 3, 0)", 1, 1, x -> x.changes(0, 3, 0));
    e.told("changes(5, 6, 99)", 1, 2, x -> x.changes(5, 6, 99));
    for (int i : Edge.outside(0, 5)) {
      e.refused("changes(" + i + ", 1, 0)", -100, x -> x.changes(i, 1, 0));
    }
    for (int c : Edge.outside(0, 6)) {
      e.refused("changes(0, " + c + ", 0)", -100, x -> x.changes(0, c, 0));
    }
    for (int number : Edge.outside(0, 99)) {
      e.refused("changes(0, 1, " + number + ")", -100, x -> x.changes(0, 1, number));
      e.refused("changes(0, 0, " + number + ")", -100, x -> x.changes(0, 0, number));
    }
    Edge.ferryAnd(due, "p5550", x -> { }).refused("changes(1, 1, 0) of one", -100, x -> x.changes(1, 1, 0));
  }

  /** "0 by None (asked() 0)": of each KIND, whatever was told before. */
  private static void changesOfNone(Due due) {
    Edge e = Edge.busyAnd(due, x -> { });
    for (int i = 0; i <= 5; i++) {
      int one = i;
      e.told("changes(" + i + ", 0, 0)", 0, 0, x -> x.changes(one, 0, 0));
      e.told("changes(" + i + ", 0, 99)", 0, 0, x -> x.changes(one, 0, 99));
    }
  }

  /** "whether it can be or not": of 0s, of 9s, the least that is left amidst. */
  private static void changesWhetherItCanBe(Due due) {
    int[] more = {1, 2, -1, 1, 2, -1};
    for (String life : new String[] {"000", "999", "555"}) {
      StringBuilder signs = new StringBuilder();
      for (char letter : "pblwsc".toCharArray()) {
        signs.append(letter).append(life).append('0');
      }
      Edge e = Edge.ferryAnd(due, signs.toString(), x -> { });
      for (int i = 0; i <= 5; i++) {
        for (int c = 1; c <= 6; c++) {
          int one = i;
          int by = c;
          int thing = i == 3 ? (c + 1) / 2 % 3 : (c - 1) / 2;
          e.told("changes of " + i + " of " + life + " by " + c, c % 2 == 1 ? more[i] : -more[i], thing,
              x -> x.changes(one, by, 0));
        }
      }
    }
  }

  /** The number is the one that is told, not the next CROSSING's: a SAILOR, even and odd. */
  private static void changesByNumbers(Due due) {
    for (int crossed = 0; crossed <= 1; crossed++) {
      int many = crossed;
      Edge e = Edge.ferryAnd(due, "s5550", x -> {
        for (int k = 0; k < many; k++) {
          x.cross(0, 0);
        }
      });
      for (int number : new int[] {0, 1, 2, 97, 98, 99}) {
        e.told("a SAILOR in CROSSING " + number, number % 2 == 0 ? 2 : 1, 0, x -> x.changes(0, 1, number));
      }
    }
  }

  // ---- 20

  /** "a ROW (0 to 20 ints)". */
  private static void runSizes(Due due) {
    String six = "p5230 c5231";
    Edge none = Edge.ferryAnd(due, six, x -> x.row(0, 0));
    none.told("run by no ints", 0, 523, x -> x.run(0, 0));
    Edge one = Edge.ferryAnd(due, six, x -> Due.row(x, 0, 6));
    one.told("run by one int", 1, 522, x -> x.run(0, 0));
    Edge twenty = Edge.ferryAnd(due, six, x -> {
      x.row(0, 20);
      x.lay(0, 19, 6);
    });
    twenty.told("run by 20 ints, the last one LANDS", 1, 522, x -> x.run(0, 0));
    twenty.told("run by 20 ints, all LAND", 20, 524, x -> x.run(1, 0));
    for (int n : new int[] {21, 22, 40}) {
      Edge.busyAnd(due, x -> x.row(0, n)).finds("run by " + n + " ints", Edge.SIZE, x -> x.run(0, 0));
    }
    Edge ends = Edge.ferryAnd(due, "p0000 p9990", x -> {
      Due.row(x, 0, 2, 4, 6);
      Due.row(x, 1, 1, 3, 5);
    });
    ends.told("the least LIFE", 0, 0, x -> x.run(0, 0));
    ends.told("the greatest LIFE", 0, 999, x -> x.run(1, 1));
  }

  /** "UNLIKE: not 0 .. 6", at the first place and at the last. */
  private static void runUnlike(Due due) {
    Edge.ferryAnd(due, "p5550", x -> Due.row(x, 0, 0, 6)).told("run by 0 and 6", 1, 554, x -> x.run(0, 0));
    for (int c : Edge.outside(0, 6)) {
      Edge.busyAnd(due, x -> Due.row(x, 0, c)).finds("run by " + c, Edge.UNLIKE, x -> x.run(0, 0));
      Edge.busyAnd(due, x -> Due.row(x, 0, c, 1)).finds("run by " + c + " first", Edge.UNLIKE, x -> x.run(0, 0));
      Edge.busyAnd(due, x -> {
        x.row(0, 20);
        x.lay(0, 19, c);
      }).finds("run by " + c + " last of 20", Edge.UNLIKE, x -> x.run(0, 0));
      Edge.busyAnd(due, x -> {
        x.row(0, 21);
        x.lay(0, 0, c);
      }).finds("SIZE ahead of UNLIKE", Edge.SIZE, x -> x.run(0, 0));
    }
    Edge gone = Edge.ferryAnd(due, "p5550", x -> {
      Due.row(x, 0, 1, 99);
      x.row(0, 1);
    });
    gone.told("what was behind is gone", 0, 555, x -> x.run(0, 0));
  }

  private static void runRefused(Due due) {
    Edge e = Edge.busyAnd(due, x -> Due.row(x, 0, 9));
    e.finds("run(0, 1)", Edge.NOTHING, x -> x.run(0, 1));
    e.told("run(5, 5)", 1, 341, x -> x.run(5, 5));
    for (int i : Edge.outside(0, 5)) {
      e.refused("run(" + i + ", 5)", Edge.BAD, x -> x.run(i, 5));
      e.refused("run(" + i + ", 1): BAD ahead of NOTHING", Edge.BAD, x -> x.run(i, 1));
      e.refused("run(" + i + ", 0): BAD ahead of UNLIKE", Edge.BAD, x -> x.run(i, 0));
    }
    for (int r : Edge.outside(0, 5)) {
      e.refused("run(0, " + r + ")", Edge.BAD, x -> x.run(0, r));
    }
  }

  /** Aside, DEEDS are none: it goes on where 40 are; numbers go on from the next CROSSING's. */
  private static void runBehindFortyDeeds(Due due) {
    for (int crossed = 39; crossed <= 40; crossed++) {
      int many = crossed;
      Edge e = Edge.ferryAnd(due, "p5550s0000", x -> {
        for (int k = 0; k < many; k++) {
          x.cross(0, 0);
        }
        Due.row(x, 0, 1, 3, 5, 1, 3, 5);
      });
      e.told("a SAILOR behind " + many + " CROSSINGS", 6, 333, x -> x.run(1, 0));
      Edge one = Edge.ferryAnd(due, "p5550s0000", x -> {
        for (int k = 0; k < many; k++) {
          x.cross(0, 0);
        }
        Due.row(x, 0, 1, 3);
      });
      one.told("its first two behind " + many, 2, many == 40 ? 210 : 120, x -> x.run(1, 0));
    }
  }

  // ---- 21

  /** What fewest() answers, and what comes to ROW 3. */
  private static void fewestIs(Due due, String signs, int[] told, int bank, int... path) {
    FerryChange x = Due.ferry(signs);
    Due.row(x, 0, told);
    Due.row(x, 3, 70, 71, 72, 73, 74, 75);
    long upper = x.upper();
    int asked = x.asked();
    String call = "fewest of " + signs + " to " + java.util.Arrays.toString(told) + " on " + bank;
    due.is(call, x.fewest(0, 0, bank, 3), path.length);
    due.is(call + ": asked() stays", x.asked(), asked);
    due.is(call + ": upper() stays", x.upper(), upper);
    for (int k = 0; k < path.length; k++) {
      due.told(x, call + ": step " + k, x.at(3, k), path[k]);
    }
    due.finds(x, call + ": no more steps", x.at(3, path.length), Edge.BEYOND);
    due.is(call + ": aside", x.count(2) + x.count(1), 0);
  }

  /** "The fewest CROSSINGS (0 to 4)". */
  private static void fewestNoughtToFour(Due due) {
    fewestIs(due, "p5550", new int[] {5, 5, 5}, -1);
    fewestIs(due, "p5550", new int[] {5, 5, 6}, -1, 5);
    fewestIs(due, "p5550", new int[] {5, 6, 6}, -1, 3, 5);
    fewestIs(due, "p5550", new int[] {6, 6, 6}, -1, 1, 3, 5);
    fewestIs(due, "p5550", new int[] {6, 6, 7}, -1, 1, 3, 5, 5);
    fewestIs(due, "p5550", new int[] {9, 5, 5}, -1, 1, 1, 1, 1);
    fewestIs(due, "p0000", new int[] {0, 0, 0}, 0);
    fewestIs(due, "p9990", new int[] {9, 9, 9}, 0);
    fewestIs(due, "b1110", new int[] {9, 1, 1}, -1, 1, 1, 1, 1);
  }

  private static void noFewest(Due due, String signs, int[] told, int bank) {
    Edge e = Edge.ferryAnd(due, signs, x -> {
      Due.row(x, 0, told);
      Due.row(x, 3, 42, 43);
      Due.row(x, 5, 1);
      x.odds(0, 5, 5);
      x.at(3, 1);
    });
    String call = "fewest of " + signs + " to " + java.util.Arrays.toString(told) + " on " + bank;
    e.refused(call + " into a ROW that is there", Edge.NONE, x -> x.fewest(0, 0, bank, 3));
    e.refused(call + " into a ROW that is missing", Edge.NONE, x -> x.fewest(0, 0, bank, 2));
    e.refused(call + " into its own ROW", Edge.NONE, x -> x.fewest(0, 0, bank, 0));
  }

  /** "NONE: by none of these": five would be needed; it can't be; not on that BANK. The ROW stays. */
  private static void fewestByNone(Due due) {
    noFewest(due, "p5550", new int[] {6, 7, 7}, -1);
    noFewest(due, "p4550", new int[] {9, -1, -1}, -1);
    noFewest(due, "b0000", new int[] {1, -1, -1}, -1);
    noFewest(due, "p5550", new int[] {5, 5, 5}, 1);
    noFewest(due, "p5550", new int[] {6, 6, 7}, 1);
    noFewest(due, "p5550", new int[] {6, 6, 6}, 0);
  }

  /** "(3 ints: -1 as they will, 0 .. 9)". */
  private static void fewestAsTheyWill(Due due) {
    fewestIs(due, "p5550", new int[] {-1, -1, -1}, -1);
    fewestIs(due, "p5550", new int[] {-1, 6, -1}, -1, 3);
    fewestIs(due, "p8550", new int[] {9, -1, -1}, -1, 1);
    fewestIs(due, "p5510", new int[] {-1, -1, 0}, -1, 6);
    fewestIs(due, "p0100", new int[] {0, 0, 0}, -1, 4);
    fewestIs(due, "w5590", new int[] {6, -1, -1}, -1, 5);
    fewestIs(due, "l1550", new int[] {0, -1, -1}, -1, 1);
  }

  /** "it is on a BANK (0, 1; -1 on either)". */
  private static void fewestBanks(Due due) {
    int[] any = {-1, -1, -1};
    fewestIs(due, "p5550", any, 0);
    fewestIs(due, "p5550", any, 1, 1);
    fewestIs(due, "p5551", any, 1);
    fewestIs(due, "p5551", any, 0, 1);
    fewestIs(due, "p9990", any, 1, 2);
    fewestIs(due, "c9990", any, 1, 0);
    fewestIs(due, "c9990", new int[] {9, 9, 9}, 1, 0);
    fewestIs(due, "l0000", any, 1, 2);
    fewestIs(due, "p5550", new int[] {6, -1, -1}, 0, 1, 3);
    fewestIs(due, "p8990", new int[] {9, -1, -1}, 0, 1, 4);
  }

  /** "the first DECLARATIONS by which it is so": the first number counts most; None, too, is one. */
  private static void fewestIsTheFirst(Due due) {
    fewestIs(due, "p5550", new int[] {6, 5, 6}, -1, 1, 5);
    fewestIs(due, "p5550", new int[] {4, 4, 5}, 0, 2, 4);
    fewestIs(due, "s5550", new int[] {6, 5, 5}, -1, 0, 1);
    fewestIs(due, "s5550", new int[] {8, 5, 5}, -1, 1, 1);
    fewestIs(due, "s5550", new int[] {9, 5, 5}, -1, 1, 0, 1);
    fewestIs(due, "c5550", new int[] {4, 5, 5}, 0, 0, 1);
    FerryChange x = Due.ferry("s5550 p5550");
    x.cross(1, 0);
    Due.row(x, 0, 6, 5, 5);
    due.is("a SAILOR in an odd CROSSING", x.fewest(0, 0, -1, 1), 1);
    due.told(x, "a SAILOR in an odd CROSSING", x.at(1, 0), 1);
  }

  /** "come to a ROW (anew)": one that is missing, longer, of no ints, the told one itself. */
  private static void fewestToARow(Due due) {
    FerryChange x = Due.ferry("p5550");
    Due.row(x, 0, 6, 6, 5);
    due.is("to a missing ROW", x.fewest(0, 0, -1, 5), 2);
    due.is("it is there", x.count(7), 2);
    due.told(x, "its first", x.at(5, 0), 1);
    due.told(x, "its last", x.at(5, 1), 3);
    due.finds(x, "no more", x.at(5, 2), Edge.BEYOND);
    x.row(4, 40);
    x.lay(4, 39, 8);
    due.is("to a longer ROW", x.fewest(0, 0, -1, 4), 2);
    due.finds(x, "no more", x.at(4, 2), Edge.BEYOND);
    x.row(4, 0);
    due.is("to a ROW of no ints", x.fewest(0, 0, -1, 4), 2);
    due.told(x, "its last", x.at(4, 1), 3);
    due.told(x, "the told ROW stays", x.at(0, 2), 5);
    due.is("to the told ROW", x.fewest(0, 0, -1, 0), 2);
    due.told(x, "its last", x.at(0, 1), 3);
    due.finds(x, "no more", x.at(0, 2), Edge.BEYOND);
    Due.row(x, 0, 5, 5, 5);
    due.is("none, to a missing ROW", x.fewest(0, 0, -1, 3), 0);
    due.is("it is there", x.count(7), 4);
    due.finds(x, "of no ints", x.at(3, 0), Edge.BEYOND);
    due.is("none, to the told ROW", x.fewest(0, 0, -1, 0), 0);
    due.finds(x, "of no ints", x.at(0, 0), Edge.BEYOND);
    due.finds(x, "then not as many as due", x.fewest(0, 0, -1, 0), Edge.SIZE);
  }

  /** "SIZE", ahead of UNLIKE. */
  private static void fewestSizes(Due due) {
    for (int n : new int[] {0, 1, 2, 4, 40}) {
      Edge e = Edge.busyAnd(due, x -> {
        x.row(0, n);
        x.lay(0, 0, 10);
      });
      e.finds("fewest by " + n + " ints", Edge.SIZE, x -> x.fewest(0, 0, 0, 1));
      e.finds("fewest by " + n + " ints to itself", Edge.SIZE, x -> x.fewest(0, 0, 0, 0));
    }
  }

  /** "UNLIKE": not -1 .. 9, at each place; what was behind the third is gone. */
  private static void fewestUnlike(Due due) {
    Edge gone = Edge.ferryAnd(due, "p0000", x -> {
      Due.row(x, 0, 0, 0, 0, 99);
      x.row(0, 3);
    });
    gone.taken("fewest by 3 ints that were 4", 0, x -> x.fewest(0, 0, -1, 1));
    for (int place = 0; place <= 2; place++) {
      int at = place;
      for (int v : Edge.outside(-1, 9)) {
        Edge e = Edge.busyAnd(due, x -> {
          Due.row(x, 0, -1, -1, -1);
          x.lay(0, at, v);
        });
        e.finds("fewest by " + v + " at " + at, Edge.UNLIKE, x -> x.fewest(0, 0, 0, 1));
      }
    }
  }

  private static void fewestBad(Due due) {
    Edge e = Edge.busyAnd(due, x -> {
      Due.row(x, 0, -1, -1, -1);
      Due.row(x, 1, 10, 10);
    });
    e.taken("fewest(5, 0, -1, 5)", 0, x -> x.fewest(5, 0, -1, 5));
    e.taken("fewest(0, 0, 1, 0)", 0, x -> x.fewest(0, 0, 1, 0));
    e.taken("fewest(0, 0, 0, 5)", 1, x -> x.fewest(0, 0, 0, 5));
    e.finds("fewest(0, 2, 0, 3)", Edge.NOTHING, x -> x.fewest(0, 2, 0, 3));
    e.finds("fewest(0, 2, 0, 0)", Edge.NOTHING, x -> x.fewest(0, 2, 0, 0));
    for (int i : Edge.outside(0, 5)) {
      e.refused("fewest of PASSENGER " + i, Edge.BAD, x -> x.fewest(i, 0, 0, 3));
      e.refused("fewest of PASSENGER " + i + ", ahead of NOTHING", Edge.BAD, x -> x.fewest(i, 2, 0, 3));
    }
    for (int r : Edge.outside(0, 5)) {
      e.refused("fewest by ROW " + r, Edge.BAD, x -> x.fewest(0, r, 0, 3));
      e.refused("fewest to ROW " + r, Edge.BAD, x -> x.fewest(0, 0, 0, r));
      e.refused("fewest to ROW " + r + ", ahead of NOTHING", Edge.BAD, x -> x.fewest(0, 2, 0, r));
      e.refused("fewest to ROW " + r + ", ahead of SIZE", Edge.BAD, x -> x.fewest(0, 1, 0, r));
    }
    for (int bank : Edge.outside(-1, 1)) {
      e.refused("fewest on BANK " + bank, Edge.BAD, x -> x.fewest(0, 0, bank, 3));
      e.refused("fewest on BANK " + bank + ", ahead of SIZE", Edge.BAD, x -> x.fewest(0, 1, bank, 3));
    }
  }

  // ---- 22

  /** "behind n (0 .. 4) CROSSINGS"; "(lower() is 1)", whatever it was. */
  private static void livesNumbers(Due due) {
    Edge e = Edge.busyAnd(due, x -> { });
    e.parts("lives(0, 0)", 1, 1, x -> x.lives(0, 0));
    e.parts("lives(5, 0)", 1, 1, x -> x.lives(5, 0));
    for (int n : Edge.outside(0, 4)) {
      e.refused("lives(0, " + n + ")", Edge.BAD, x -> x.lives(0, n));
    }
    for (int i : Edge.outside(0, 5)) {
      e.refused("lives(" + i + ", 0)", Edge.BAD, x -> x.lives(i, 0));
    }
    e.taken("lives tells nothing by asked()", 77, x -> x.lives(0, 4) * x.asked());
    int[] amidst = {1, 7, 25, 63, 129};
    Edge one = Edge.ferryAnd(due, "p5550", x -> { });
    for (int n = 0; n <= 4; n++) {
      int many = n;
      one.parts("lives amidst, " + n, amidst[n], 1, x -> x.lives(0, many));
    }
    one.refused("lives(1, 0) of one", Edge.BAD, x -> x.lives(1, 0));
  }

  /** "or fewer": in a corner half of the ways can't be: those of sums 0, 1, .. n. */
  private static void livesInCorners(Due due) {
    int[] corner = {1, 4, 10, 20, 35};
    for (String signs : new String[] {"p0000", "p9991", "b0000", "b9991", "l0001", "l9990", "w0000", "w9990", "c0000", "c9991"}) {
      Edge e = Edge.ferryAnd(due, signs, x -> { });
      for (int n = 0; n <= 4; n++) {
        int many = n;
        e.parts("lives of " + signs + ", " + n, corner[n], 1, x -> x.lives(0, many));
      }
    }
    // A SAILOR of 000: by 2 first, by 1 then; by None first, by 1 then; the other way round in odd ones.
    Edge even = Edge.ferryAnd(due, "s0000p5550", x -> { });
    even.parts("a SAILOR's, 1", 4, 1, x -> x.lives(0, 1));
    even.parts("a SAILOR's, 2", 4 + 3 + 3 * 3, 1, x -> x.lives(0, 2));
    Edge odd = Edge.ferryAnd(due, "s0000p5550", x -> x.cross(1, 0));
    odd.parts("a SAILOR's in an odd one, 1", 4, 1, x -> x.lives(0, 1));
    odd.parts("a SAILOR's in an odd one, 2", 4 + 3 + 3 * 3, 1, x -> x.lives(0, 2));
  }
}
