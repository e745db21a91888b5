/** The edges of promises 31 to 33: odds, mid, lots. */
public final class EdgesOfChancesTest {
  private static final long MODULUS = 2147483647L;

  public static void main(String[] args) {
    Due due = new Due();
    chancesOfNoughtAndTwelve(due);
    chancesInLowestTerms(due);
    chancesOfOneToSix(due);
    chancesOfRoundAnyway(due);
    chancesOfClerks(due);
    chancesByNumbers(due);
    midEnds(due);
    chancesSizes(due);
    chancesUnlike(due);
    whatWasBehindIsGone(due);
    chancesRefused(due);
    lotsNumbers(due);
    lotsSeeds(due);
    lotsState(due);
    lotsFull(due);
    firstLots(due);
    lotsOfEightBySeven(due);
    lotsAreDeedsInAnyCase(due);
    lotsOfOneAndOfSix(due);
    due.end();
  }

  // ---- 31, 32

  private static Edge by(Due due, String signs, int... declarations) {
    return Edge.ferryAnd(due, signs, x -> {
      Due.row(x, 0, declarations);
      Due.row(x, 5, 1);
      x.odds(0, 5, 5);
      x.passenger(0, 1);
    });
  }

  /** "not believed by p (0 .. 12) of 12": surely believed, surely not; next to these. */
  private static void chancesOfNoughtAndTwelve(Due due) {
    Edge e = by(due, "p5550", 1);
    e.parts("odds by 0 of 12", 1, 1, x -> x.odds(0, 0, 0));
    e.parts("odds by 1 of 12", 11, 12, x -> x.odds(0, 0, 1));
    e.parts("odds by 11 of 12", 1, 12, x -> x.odds(0, 0, 11));
    e.parts("odds by 12 of 12", 0, 1, x -> x.odds(0, 0, 12));
    e.parts("mid by 0 of 12", 16, 1, x -> x.mid(0, 0, 0));
    e.parts("mid by 1 of 12", 15 * 12 + 11, 12, x -> x.mid(0, 0, 1));
    e.parts("mid by 11 of 12", 15 * 12 + 1, 12, x -> x.mid(0, 0, 11));
    e.parts("mid by 12 of 12", 15, 1, x -> x.mid(0, 0, 12));
    e.taken("odds tell nothing by asked()", 5, x -> x.odds(0, 0, 3) * x.asked());
    e.taken("mid tells nothing by asked()", 5, x -> x.mid(0, 0, 3) * x.asked());
  }

  /** "in lowest terms, the lower number above 0 (0 by 1)". */
  private static void chancesInLowestTerms(Due due) {
    Edge e = by(due, "p5550", 1);
    int[][] terms = {{2, 5, 6}, {3, 3, 4}, {4, 2, 3}, {6, 1, 2}, {8, 1, 3}, {9, 1, 4}, {10, 1, 6}, {5, 7, 12}, {7, 5, 12}};
    for (int[] t : terms) {
      e.parts("odds by " + t[0] + " of 12", t[1], t[2], x -> x.odds(0, 0, t[0]));
      e.parts("mid by " + t[0] + " of 12", 15L * t[2] + t[1], t[2], x -> x.mid(0, 0, t[0]));
    }
    Edge none = by(due, "p0000", 2, 4, 6, 2, 4, 6);
    none.parts("nothing can be: 0 by 1", 0, 1, x -> x.odds(0, 0, 5));
    none.parts("nothing together: 0 by 1", 0, 1, x -> x.mid(0, 0, 5));
  }

  /** "a ROW of 1 to 6 ints": the sixth counts; the greatest lower number is 12 six times. */
  private static void chancesOfOneToSix(Due due) {
    Edge six = by(due, "p4440", 1, 1, 1, 1, 1, 0);
    // Believed an odd number of five times by 11 of 12: half of (12^5 - (-10)^5) by 12^5; the sixth is None.
    six.parts("five and None by 1 of 12", (248832 + 100000) / 2 / 16, 248832 / 16, x -> x.odds(0, 0, 1));
    Edge all = by(due, "p3330", 1, 3, 5, 1, 3, 5);
    // Half of (12^6 - 10^6) by 12^6.
    all.parts("six by 1 of 12", (2985984 - 1000000) / 2 / 32, 2985984 / 32, x -> x.odds(0, 0, 1));
    all.parts("six by 11 of 12", (2985984 - 1000000) / 2 / 32, 2985984 / 32, x -> x.odds(0, 0, 11));
    all.parts("six by 0 of 12", 0, 1, x -> x.odds(0, 0, 0));
    all.parts("mid of six by 1 of 12", 9 * 2 + 11, 2, x -> x.mid(0, 0, 1));
    Edge last = by(due, "p5550", 0, 0, 0, 0, 0, 1);
    last.parts("the sixth alone", 3, 4, x -> x.odds(0, 0, 3));
    last.parts("the sixth alone", 63, 4, x -> x.mid(0, 0, 3));
    Edge corner = by(due, "p9990", 2, 1, 1, 1, 1, 1);
    // Less is believed by 11 of 12, and then not one of five more: 999 less 1 by 11 of 12^6.
    corner.parts("12 six times", 27L * 2985984 - 11, 2985984, x -> x.mid(0, 0, 1));
  }

  /** What can't be goes ROUND, believed or not; it hangs on those ahead. */
  private static void chancesOfRoundAnyway(Due due) {
    Edge e = by(due, "p9550", 1, 2);
    e.parts("the first can't be", 1, 2, x -> x.odds(0, 0, 6));
    Edge then = by(due, "p8550", 1, 1);
    // Neither is believed: 1 of 4; else just one of them LANDS.
    then.parts("the second can't be behind the first", 3, 4, x -> x.odds(0, 0, 6));
    then.parts("the second can't be behind the first", 18 * 4 + 3, 4, x -> x.mid(0, 0, 6));
    Edge free = by(due, "p7550", 1, 1);
    free.parts("both can be", 1, 2, x -> x.odds(0, 0, 6));
    free.parts("both can be", 18, 1, x -> x.mid(0, 0, 6));
  }

  /** A CLERK LANDS by None, if it is believed. */
  private static void chancesOfClerks(Due due) {
    Edge e = by(due, "c0001", 0);
    e.parts("a CLERK by None", 3, 4, x -> x.odds(0, 0, 3));
    e.parts("a CLERK by None, never believed", 0, 1, x -> x.odds(0, 0, 12));
    e.parts("a CLERK by None", 0, 1, x -> x.mid(0, 0, 3));
    by(due, "l0001", 0).parts("a LIAR by None", 0, 1, x -> x.odds(0, 0, 3));
  }

  /** One that is not believed is a CROSSING all the same: a SAILOR's second goes by 1. */
  private static void chancesByNumbers(Due due) {
    Edge e = by(due, "s8550", 1, 1);
    e.parts("a SAILOR's second", 3, 4, x -> x.odds(0, 0, 3));
    e.parts("a SAILOR's second", 18 * 4 + 3, 4, x -> x.mid(0, 0, 3));
    Edge odd = Edge.ferryAnd(due, "s8550", x -> {
      x.cross(0, 0);
      Due.row(x, 0, 1, 1);
    });
    odd.parts("a SAILOR's first in an odd CROSSING", 3, 4, x -> x.odds(0, 0, 3));
    Edge forty = Edge.ferryAnd(due, "s8550", x -> {
      for (int k = 0; k < 40; k++) {
        x.cross(0, 0);
      }
      Due.row(x, 0, 1, 1);
    });
    forty.parts("a SAILOR's second behind 40 DEEDS", 18 * 4 + 3, 4, x -> x.mid(0, 0, 3));
  }

  /** The least and the greatest that THINGS are together; on the other BANK, from either. */
  private static void midEnds(Due due) {
    by(due, "p0000", 2).parts("0", 0, 1, x -> x.mid(0, 0, 0));
    by(due, "p9991", 1).parts("27", 27, 1, x -> x.mid(0, 0, 0));
    by(due, "p9981", 5).parts("27, LANDED", 27, 1, x -> x.mid(0, 0, 0));
    by(due, "p9981", 5).parts("from BANK 1 to BANK 0", 1, 1, x -> x.odds(0, 0, 0));
    by(due, "p9980", 5).parts("from BANK 0 to BANK 1", 1, 1, x -> x.odds(0, 0, 0));
    by(due, "b9970", 5).parts("a BRIDE's THINGS, not her WEIGHT", 27, 1, x -> x.mid(0, 0, 0));
  }

  /** "SIZE": no ints, more than 6; ahead of UNLIKE. */
  private static void chancesSizes(Due due) {
    Edge none = Edge.busyAnd(due, x -> x.row(0, 0));
    none.finds("odds by no ints", Edge.SIZE, x -> x.odds(0, 0, 1));
    none.finds("mid by no ints", Edge.SIZE, x -> x.mid(0, 0, 1));
    for (int n : new int[] {7, 8, 40}) {
      Edge e = Edge.busyAnd(due, x -> {
        x.row(0, n);
        x.lay(0, 0, 7);
      });
      e.finds("odds by " + n + " ints", Edge.SIZE, x -> x.odds(0, 0, 1));
      e.finds("mid by " + n + " ints", Edge.SIZE, x -> x.mid(0, 0, 1));
    }
  }

  /** "UNLIKE": not 0 .. 6, first and last. */
  private static void chancesUnlike(Due due) {
    by(due, "p5550", 0, 6).parts("0 and 6 are taken", 1, 1, x -> x.odds(0, 0, 0));
    for (int c : Edge.outside(0, 6)) {
      for (int place : new int[] {0, 5}) {
        Edge e = Edge.busyAnd(due, x -> {
          x.row(0, 6);
          x.lay(0, place, c);
        });
        e.finds("odds by " + c + " at " + place, Edge.UNLIKE, x -> x.odds(0, 0, 1));
        e.finds("mid by " + c + " at " + place, Edge.UNLIKE, x -> x.mid(0, 0, 1));
      }
    }
  }

  /** A ROW made anew is no longer than it is. */
  private static void whatWasBehindIsGone(Due due) {
    for (int n : new int[] {1, 6}) {
      Edge e = Edge.ferryAnd(due, "p5550", x -> {
        x.row(0, 7);
        x.lay(0, n, 7);
        x.row(0, n);
        x.lay(0, n - 1, 1);
      });
      e.parts("odds by " + n + " ints that were 7", 3, 4, x -> x.odds(0, 0, 3));
      e.parts("mid by " + n + " ints that were 7", 63, 4, x -> x.mid(0, 0, 3));
    }
  }

  private static void chancesRefused(Due due) {
    Edge e = Edge.busyAnd(due, x -> {
      x.row(0, 6);
      x.row(1, 0);
    });
    e.parts("odds(5, 5, 12)", 0, 1, x -> x.odds(5, 5, 12));
    e.parts("mid(5, 5, 0)", 8, 1, x -> x.mid(5, 5, 0));
    e.finds("odds(0, 2, 0)", Edge.NOTHING, x -> x.odds(0, 2, 0));
    e.finds("mid(0, 2, 12)", Edge.NOTHING, x -> x.mid(0, 2, 12));
    for (int i : Edge.outside(0, 5)) {
      e.refused("odds(" + i + ", 0, 1)", Edge.BAD, x -> x.odds(i, 0, 1));
      e.refused("mid(" + i + ", 0, 1)", Edge.BAD, x -> x.mid(i, 0, 1));
      e.refused("odds(0, " + i + ", 1)", Edge.BAD, x -> x.odds(0, i, 1));
      e.refused("mid(0, " + i + ", 1)", Edge.BAD, x -> x.mid(0, i, 1));
    }
    for (int p : Edge.outside(0, 12)) {
      e.refused("odds(0, 0, " + p + ")", Edge.BAD, x -> x.odds(0, 0, p));
      e.refused("mid(0, 0, " + p + ")", Edge.BAD, x -> x.mid(0, 0, p));
      e.refused("odds(0, 2, " + p + "): BAD ahead of NOTHING", Edge.BAD, x -> x.odds(0, 2, p));
      e.refused("mid(0, 2, " + p + "): BAD ahead of NOTHING", Edge.BAD, x -> x.mid(0, 2, p));
      e.refused("odds(0, 1, " + p + "): BAD ahead of SIZE", Edge.BAD, x -> x.odds(0, 1, p));
      e.refused("mid(0, 1, " + p + "): BAD ahead of SIZE", Edge.BAD, x -> x.mid(0, 1, p));
    }
  }

  // ---- 33

  private static int deedsBehindLots(FerryChange x, int n, int seed) {
    int bits = x.lots(n, seed);
    return bits < 0 ? bits : x.count(2);
  }

  /** "n (1 .. 20) DEEDS". */
  private static void lotsNumbers(Due due) {
    Edge e = Edge.busyAnd(due, x -> { });
    e.taken("lots(1, 7)", 3, x -> deedsBehindLots(x, 1, 7));
    e.taken("lots(20, 7)", 22, x -> deedsBehindLots(x, 20, 7));
    for (int n : Edge.outside(1, 20)) {
      e.refused("lots(" + n + ", 7)", Edge.BAD, x -> x.lots(n, 7));
    }
    e.refused("lots(0, 7)", Edge.BAD, x -> x.lots(0, 7));
    e.taken("lots tell nothing by asked()", 77, x -> x.lots(20, 7) * 0 + x.asked());
  }

  /** "a seed (1 .. 2147483646)". */
  private static void lotsSeeds(Due due) {
    Edge e = Edge.busyAnd(due, x -> { });
    for (int seed : new int[] {1, 2, 2147483645, 2147483646}) {
      e.taken("lots(3, " + seed + ")", 5, x -> deedsBehindLots(x, 3, seed));
    }
    for (int seed : new int[] {0, -1, Integer.MIN_VALUE, 2147483647}) {
      e.refused("lots(3, " + seed + ")", Edge.BAD, x -> x.lots(3, seed));
    }
  }

  /** "STATE: no PASSENGERS", behind BAD. */
  private static void lotsState(Due due) {
    Edge none = new Edge(due, x -> { });
    none.refused("lots(1, 1) of no PASSENGERS", Edge.STATE, x -> x.lots(1, 1));
    none.refused("lots(20, 2147483646) of no PASSENGERS", Edge.STATE, x -> x.lots(20, 2147483646));
    none.refused("lots(0, 1) of no PASSENGERS", Edge.BAD, x -> x.lots(0, 1));
    none.refused("lots(21, 1) of no PASSENGERS", Edge.BAD, x -> x.lots(21, 1));
    none.refused("lots(1, 0) of no PASSENGERS", Edge.BAD, x -> x.lots(1, 0));
  }

  private static Edge deeds(Due due, int many) {
    return Edge.ferryAnd(due, "p5550 b5551", x -> {
      for (int k = 0; k < many; k++) {
        x.cross(0, k % 2 + 1);
      }
    });
  }

  /** "FULL: with n more there would be more than 40 DEEDS. (FULL last.)" */
  private static void lotsFull(Due due) {
    deeds(due, 20).taken("20 and 20", 40, x -> deedsBehindLots(x, 20, 7));
    deeds(due, 21).refused("21 and 20", Edge.FULL, x -> x.lots(20, 7));
    deeds(due, 21).taken("21 and 19", 40, x -> deedsBehindLots(x, 19, 7));
    deeds(due, 39).taken("39 and 1", 40, x -> deedsBehindLots(x, 1, 7));
    deeds(due, 39).refused("39 and 2", Edge.FULL, x -> x.lots(2, 7));
    deeds(due, 40).refused("40 and 1", Edge.FULL, x -> x.lots(1, 7));
    deeds(due, 40).refused("40 and 20", Edge.FULL, x -> x.lots(20, 7));
    deeds(due, 40).refused("BAD ahead of FULL: n 0", Edge.BAD, x -> x.lots(0, 7));
    deeds(due, 40).refused("BAD ahead of FULL: n 21", Edge.BAD, x -> x.lots(21, 7));
    deeds(due, 40).refused("BAD ahead of FULL: seed 0", Edge.BAD, x -> x.lots(1, 0));
  }

  /** "a number comes from the one ahead by 48271 times it modulo 2147483647, the first from a seed". */
  private static void firstLots(Due due) {
    String six = "p5550b5550l5550w5550s5550c5550";
    // Seed 1: 48271. Modulo 6 it is 1; by 8, cut: 6033, modulo 8 it is 1, modulo 7 it is 6.
    FerryChange x = Due.ferry(six);
    due.is("seed 1: BANK 1", x.lots(1, 1), 2);
    due.is("seed 1: the BRIDE", Due.life(x, 1), 5531);
    due.is("seed 1: a CROSSING", x.count(1), 1);
    // Seed 2147483646: 48271 below the modulus, 2147435376. Modulo 6: 0; by 8: 268429422, 6 by 8, 2 by 7.
    x = Due.ferry(six);
    due.is("seed 2147483646: BANK 1", x.lots(1, 2147483646), 1);
    due.is("seed 2147483646: the PASSENGER", Due.life(x, 0), 4551);
    // Two lots are the first one's, and then what the first number gives as a seed.
    x = Due.ferry(six);
    FerryChange y = Due.ferry(six);
    x.lots(2, 1);
    y.lots(1, 1);
    y.lots(1, 48271);
    due.is("two lots, and one and one", x.digest() == y.digest() ? 1 : 0, 1);
  }

  private static long lot(long seed) {
    return 48271L * seed % MODULUS;
  }

  /** "if it by 8, cut, modulo 8 is 7" a THING is set; 6 and 0 next to it are CROSSINGS. All by hand. */
  private static void lotsOfEightBySeven(Due due) {
    int[] seen = new int[8];
    for (int seed = 1; seed <= 400; seed++) {
      long lot = lot(seed);
      int eight = (int) (lot / 8 % 8);
      seen[eight]++;
      FerryChange x = Due.ferry("p5550b5550l5550w5550s5550c5550");
      int bits = x.lots(1, seed);
      FerryChange y = Due.ferry("p5550b5550l5550w5550s5550c5550");
      int i = (int) (lot % 6);
      if (eight == 7) {
        due.is("seed " + seed + ": no CROSSING", x.count(1), 0);
        y.set(i, (int) (lot / 64 % 3), (int) (lot / 256 % 10));
      } else {
        due.is("seed " + seed + ": a CROSSING", x.count(1), 1);
        y.cross(i, (int) (lot / 8 % 7));
      }
      due.is("seed " + seed + ": BANK 1", bits, y.count(3));
      due.is("seed " + seed + ": BANK 1 by count", bits, x.count(3));
      due.is("seed " + seed + ": a DEED", x.count(2), 1);
      due.is("seed " + seed + ": its LIFE, BANK", Due.life(x, i), Due.life(y, i));
    }
    for (int eight = 0; eight < 8; eight++) {
      due.is("seeds of " + eight, seen[eight] > 0 ? 1 : 0, 1);
    }
  }

  /** "(a DEED in any case)": a THING set to what it is; one who goes ROUND. */
  private static void lotsAreDeedsInAnyCase(Due due) {
    int same = 0;
    int round = 0;
    for (int seed = 1; seed <= 2000 && (same < 5 || round < 5); seed++) {
      long lot = lot(seed);
      boolean sets = lot / 8 % 8 == 7;
      int thing = (int) (lot / 64 % 3);
      int v = (int) (lot / 256 % 10);
      StringBuilder signs = new StringBuilder("p5550");
      if (sets) {
        signs.setCharAt(1 + thing, (char) ('0' + v));
      } else if (lot / 8 % 7 != 0) {
        continue;
      }
      same += sets ? 1 : 0;
      round += sets ? 0 : 1;
      FerryChange x = Due.ferry(signs.toString());
      int before = Due.life(x, 0);
      due.is("seed " + seed + ": BANK 1", x.lots(1, seed), 0);
      due.is("seed " + seed + ": as it was", Due.life(x, 0), before);
      due.is("seed " + seed + ": a DEED", x.count(2), 1);
      due.is("seed " + seed + ": CROSSINGS", x.count(1), sets ? 0 : 1);
      due.is("seed " + seed + ": undone", x.undo(0), 1);
      due.is("seed " + seed + ": as it was", Due.life(x, 0), before);
    }
    due.is("THINGS set to what they are", same > 0 ? 1 : 0, 1);
    due.is("CROSSINGS by None", round > 0 ? 1 : 0, 1);
  }

  /** "PASSENGER it modulo how many there are": one alone does it all; all on BANK 1. */
  private static void lotsOfOneAndOfSix(Due due) {
    FerryChange one = Due.ferry("c5551");
    int bits = one.lots(20, 12345);
    due.is("one alone: 0 or 1", bits == 0 || bits == 1 ? 1 : 0, 1);
    due.is("one alone: BANK", Due.life(one, 0) % 10, bits);
    FerryChange six = Due.ferry("p9991b9991l0001w9991s9991c5551");
    due.is("who can't have more is on BANK 1 still", six.count(3), 63);
    due.is("the first lot of seed 1 is the BRIDE's, less", six.lots(1, 1), 63 - 2);
  }
}
