/** The edges of promises 26 to 28: boats, sets, sure. */
public final class EdgesOfWeightTest {
  /** WEIGHTS 3, 4 (a BRIDE's), 5, 6, 2 (a SAILOR's), 0: together 20. */
  private static final String TWENTY = "p1110 b1110 l1220 w2220 s0100 c0001";
  private static final String HEAVIEST = "b9990s9990b9990s9990b9990s9990";
  private static final String LIGHTEST = "p0000l0000c0000w0000p0000c0000";

  public static void main(String[] args) {
    Due due = new Due();
    boatsRefused(due);
    boatsTooHeavy(due);
    boatsOneToSix(due);
    boatsByALoad(due);
    boatsTheLeastSet(due);
    setsRefused(due);
    setsOfNothing(due);
    setsOfAll(due);
    setsTheFirst(due);
    sureRefused(due);
    sureNought(due);
    sureEnds(due);
    due.end();
  }

  // ---- 26

  /** "a LOAD (0 .. 99)"; "BAD; STATE: no PASSENGERS": BAD is ahead. */
  private static void boatsRefused(Due due) {
    Edge e = Edge.busyAnd(due, x -> { });
    e.refused("boats(0), too heavy", Edge.NONE, x -> x.boats(0));
    e.told("boats(99)", 1, 63, x -> x.boats(99));
    Edge none = new Edge(due, x -> { });
    none.refused("boats(0) of no PASSENGERS", Edge.STATE, x -> x.boats(0));
    none.refused("boats(99) of no PASSENGERS", Edge.STATE, x -> x.boats(99));
    for (int load : Edge.outside(0, 99)) {
      e.refused("boats(" + load + ")", Edge.BAD, x -> x.boats(load));
      none.refused("boats(" + load + ") of no PASSENGERS", Edge.BAD, x -> x.boats(load));
    }
  }

  /** "NONE: one is too heavy": by 1; whichever one it is; asked() stays. */
  private static void boatsTooHeavy(Due due) {
    for (int i = 0; i <= 5; i++) {
      StringBuilder signs = new StringBuilder("p1000p1000p1000p1000p1000p1000");
      signs.setCharAt(5 * i + 1, '7');
      Edge e = Edge.ferryAnd(due, signs.toString(), x -> x.passenger(0, 1));
      e.refused("boats(6), " + i + " is too heavy", Edge.NONE, x -> x.boats(6));
      e.taken("boats(7), " + i + " by itself", 2, x -> x.boats(7));
    }
    Edge bride = Edge.ferryAnd(due, "b1230", x -> x.passenger(0, 1));
    bride.refused("a BRIDE of 6 and 1 in a boat for 6", Edge.NONE, x -> x.boats(6));
    bride.told("a BRIDE of 6 and 1 in a boat for 7", 1, 1, x -> x.boats(7));
    Edge heavy = Edge.ferryAnd(due, HEAVIEST, x -> x.passenger(0, 1));
    heavy.refused("28 in a boat for 27", Edge.NONE, x -> x.boats(27));
    Edge light = Edge.ferryAnd(due, LIGHTEST, x -> { });
    light.told("nothing in a boat for nothing", 1, 63, x -> x.boats(0));
    Edge.ferryAnd(due, LIGHTEST, x -> x.set(5, 2, 1)).refused("1 in a boat for nothing", Edge.NONE, x -> x.boats(0));
    Edge.ferryAnd(due, "s0000", x -> { }).refused("a SAILOR in a boat for nothing", Edge.NONE, x -> x.boats(0));
  }

  /** One boat for all, one each. */
  private static void boatsOneToSix(Due due) {
    Edge.ferryAnd(due, "p0000", x -> { }).told("one alone", 1, 1, x -> x.boats(0));
    Edge.ferryAnd(due, "p9990", x -> { }).told("one alone of 27", 1, 1, x -> x.boats(27));
    Edge heavy = Edge.ferryAnd(due, HEAVIEST, x -> { });
    heavy.told("28: one each", 6, 1, x -> x.boats(28));
    heavy.told("55: one each", 6, 1, x -> x.boats(55));
    heavy.told("56: two each", 3, 3, x -> x.boats(56));
    heavy.told("83: two each", 3, 3, x -> x.boats(83));
    heavy.told("84: three each", 2, 7, x -> x.boats(84));
    heavy.told("99: three each", 2, 7, x -> x.boats(99));
  }

  /** "none bears more than a LOAD": as much as that it bears. */
  private static void boatsByALoad(Due due) {
    Edge e = Edge.ferryAnd(due, TWENTY, x -> x.passenger(0, 1));
    e.refused("a boat for 5", Edge.NONE, x -> x.boats(5));
    e.told("boats for 6", 4, 1, x -> x.boats(6));
    e.told("boats for 7", 3, 3, x -> x.boats(7));
    e.told("boats for 9", 3, 1, x -> x.boats(9));
    e.told("boats for 10", 2, 1 + 4 + 16, x -> x.boats(10));
    e.told("boats for 19", 2, 1, x -> x.boats(19));
    e.told("a boat for 20", 1, 63, x -> x.boats(20));
    e.told("a boat for 21", 1, 63, x -> x.boats(21));
  }

  /** "the least such set by which it is so": the least by its bits, with PASSENGER 0 in it. */
  private static void boatsTheLeastSet(Due due) {
    Edge e = Edge.ferryAnd(due, "p2000 p8000 p9000 p1000", x -> { });
    e.told("2 with 8, 9 with 1", 2, 3, x -> x.boats(10));
    Edge late = Edge.ferryAnd(due, "p1000 p8000 p2000 p9000", x -> { });
    late.told("1 with 9", 2, 9, x -> x.boats(10));
    Edge alone = Edge.ferryAnd(due, "p0000 p9000 p9000", x -> { });
    alone.told("nobody but 0 need be in it", 2, 3, x -> x.boats(9));
    Edge own = Edge.ferryAnd(due, "p0000 p4000 p5000", x -> { });
    own.told("all in one", 1, 7, x -> x.boats(9));
    Edge free = Edge.ferryAnd(due, "p1000 p4000 p4000 p8000", x -> { });
    free.told("three boats for 8: 0 by itself, two together, one", 3, 1, x -> x.boats(8));
  }

  // ---- 27

  /** "a WEIGHT of v (0 .. 180)"; "BAD; STATE: no PASSENGERS": BAD is ahead. */
  private static void setsRefused(Due due) {
    Edge e = Edge.busyAnd(due, x -> { });
    e.parts("sets(0)", 1, 1, x -> x.sets(0));
    e.parts("sets(180)", 0, 1, x -> x.sets(180));
    e.told("sets(180): NONE by asked()", 1, Edge.NONE, x -> x.sets(180));
    Edge none = new Edge(due, x -> { });
    none.refused("sets(0) of no PASSENGERS", Edge.STATE, x -> x.sets(0));
    none.refused("sets(180) of no PASSENGERS", Edge.STATE, x -> x.sets(180));
    for (int v : Edge.outside(0, 180)) {
      e.refused("sets(" + v + ")", Edge.BAD, x -> x.sets(v));
      none.refused("sets(" + v + ") of no PASSENGERS", Edge.BAD, x -> x.sets(v));
    }
  }

  private static void setsAre(Due due, String signs, int v, int many, int first) {
    Edge e = Edge.ferryAnd(due, signs, x -> {
      Due.row(x, 5, 1);
      x.odds(0, 5, 5);
      x.passenger(0, 6);
    });
    e.parts("sets(" + v + ") of " + signs, many, 1, x -> x.sets(v));
    e.told("sets(" + v + ") of " + signs, 1, first, x -> x.sets(v));
  }

  /** The set of none is a set, too. */
  private static void setsOfNothing(Due due) {
    setsAre(due, "p1000", 0, 1, 0);
    setsAre(due, "p0000", 0, 2, 0);
    setsAre(due, "b0000", 0, 1, 0);
    setsAre(due, LIGHTEST, 0, 64, 0);
    setsAre(due, LIGHTEST, 1, 0, Edge.NONE);
    setsAre(due, TWENTY, 0, 2, 0);
  }

  private static void setsOfAll(Due due) {
    setsAre(due, HEAVIEST, 168, 1, 63);
    setsAre(due, HEAVIEST, 167, 0, Edge.NONE);
    setsAre(due, HEAVIEST, 169, 0, Edge.NONE);
    setsAre(due, HEAVIEST, 140, 6, 31);
    setsAre(due, HEAVIEST, 84, 20, 7);
    setsAre(due, TWENTY, 20, 2, 31);
    setsAre(due, TWENTY, 21, 0, Edge.NONE);
  }

  /** "the first by asked() (bits; NONE)". */
  private static void setsTheFirst(Due due) {
    setsAre(due, "p1000p1000", 1, 2, 1);
    setsAre(due, "p2000p1000p1000", 2, 2, 1);
    setsAre(due, "p1000p1000p2000", 2, 2, 3);
    setsAre(due, "p9000p1000", 1, 1, 2);
    setsAre(due, TWENTY, 1, 0, Edge.NONE);
    setsAre(due, TWENTY, 5, 4, 4);
  }

  // ---- 28

  /** "BAD; STATE; NOUGHT: there is no set. (In this order.)" */
  private static void sureRefused(Due due) {
    Edge e = Edge.busyAnd(due, x -> { });
    e.told("sure(0)", 0, 63, x -> x.sure(0));
    e.finds("sure(180)", Edge.NOUGHT, x -> x.sure(180));
    Edge none = new Edge(due, x -> { });
    none.refused("sure(0) of no PASSENGERS", Edge.STATE, x -> x.sure(0));
    none.refused("sure(180) of no PASSENGERS: STATE ahead of NOUGHT", Edge.STATE, x -> x.sure(180));
    for (int v : Edge.outside(0, 180)) {
      e.refused("sure(" + v + ")", Edge.BAD, x -> x.sure(v));
      none.refused("sure(" + v + ") of no PASSENGERS", Edge.BAD, x -> x.sure(v));
    }
  }

  /** "nothing fits": next to what does. */
  private static void sureNought(Due due) {
    Edge e = Edge.ferryAnd(due, TWENTY, x -> {
      Due.row(x, 5, 1);
      x.odds(0, 5, 5);
      x.passenger(0, 1);
    });
    e.finds("sure(1)", Edge.NOUGHT, x -> x.sure(1));
    e.told("sure(2)", 16, 1 + 2 + 4 + 8, x -> x.sure(2));
    e.told("sure(20)", 31, 0, x -> x.sure(20));
    e.finds("sure(21)", Edge.NOUGHT, x -> x.sure(21));
    e.taken("sure tells nothing by upper()", 7, x -> x.sure(20) * 0 + x.upper());
    Edge heavy = Edge.ferryAnd(due, HEAVIEST, x -> { });
    heavy.told("sure(168)", 63, 0, x -> x.sure(168));
    heavy.finds("sure(169)", Edge.NOUGHT, x -> x.sure(169));
    heavy.finds("sure(167)", Edge.NOUGHT, x -> x.sure(167));
  }

  /** "in each such set; those in none": all, none; one who weighs nothing is in some. */
  private static void sureEnds(Due due) {
    Edge.ferryAnd(due, "p1000", x -> { }).told("one alone is in it", 1, 0, x -> x.sure(1));
    Edge.ferryAnd(due, "p1000", x -> { }).told("one alone is not in it", 0, 1, x -> x.sure(0));
    Edge.ferryAnd(due, "p0000", x -> { }).told("one that weighs nothing is in some", 0, 0, x -> x.sure(0));
    Edge.ferryAnd(due, LIGHTEST, x -> { }).told("all of them are in some", 0, 0, x -> x.sure(0));
    Edge.ferryAnd(due, "p1000p1000", x -> { }).told("either of two", 0, 0, x -> x.sure(1));
    Edge.ferryAnd(due, "p1000p2000p3000p9000", x -> { }).told("1 and 2 or 3", 0, 8, x -> x.sure(3));
    Edge.ferryAnd(due, "p1000p2000p3000p9000", x -> { }).told("and 9", 8, 0, x -> x.sure(12));
    Edge.ferryAnd(due, HEAVIEST, x -> { }).told("five of six", 0, 0, x -> x.sure(140));
  }
}
