/** The edges of promises 29 and 30: alike, duel. */
public final class EdgesOfTwoTest {
  public static void main(String[] args) {
    Due due = new Due();
    alikeRefused(due);
    alikeNone(due);
    alikeWays(due);
    alikeOneAheadOfTheOther(due);
    duelRefused(due);
    duelTurns(due);
    duelAtTheEnds(due);
    due.end();
  }

  // ---- 29

  /** "BAD: also one and the same". */
  private static void alikeRefused(Due due) {
    Edge e = Edge.ferryAnd(due, "p5550p5550p5550p5550p5550p5550", x -> x.passenger(0, 1));
    e.told("alike(0, 5)", 7, 0, x -> x.alike(0, 5));
    e.told("alike(5, 0)", 7, 0, x -> x.alike(5, 0));
    for (int i = 0; i <= 5; i++) {
      int one = i;
      e.refused("alike(" + i + ", " + i + ")", Edge.BAD, x -> x.alike(one, one));
    }
    for (int i : Edge.outside(0, 5)) {
      e.refused("alike(" + i + ", 0)", Edge.BAD, x -> x.alike(i, 0));
      e.refused("alike(0, " + i + ")", Edge.BAD, x -> x.alike(0, i));
      e.refused("alike(" + i + ", " + i + ")", Edge.BAD, x -> x.alike(i, i));
    }
    Edge one = Edge.ferryAnd(due, "p5550", x -> { });
    one.refused("alike(0, 1) of one", Edge.BAD, x -> x.alike(0, 1));
    one.refused("alike(0, 0) of one", Edge.BAD, x -> x.alike(0, 0));
  }

  /** "NONE: in none": asked() stays. Two THINGS apart by 1 each can be alike; by one more they can't. */
  private static void alikeNone(Due due) {
    Edge far = Edge.ferryAnd(due, "p5550p5580", x -> x.passenger(0, 1));
    far.refused("3 apart", Edge.NONE, x -> x.alike(0, 1));
    Edge near = Edge.ferryAnd(due, "p5550p5570", x -> x.passenger(0, 1));
    near.told("2 apart", 1, 56, x -> x.alike(0, 1));
    Edge three = Edge.ferryAnd(due, "p5550p6660", x -> x.passenger(0, 1));
    three.refused("1 apart in three", Edge.NONE, x -> x.alike(0, 1));
    Edge two = Edge.ferryAnd(due, "p5550p5660", x -> x.passenger(0, 1));
    two.told("1 apart in two", 2, 36, x -> x.alike(0, 1));
    Edge brides = Edge.ferryAnd(due, "b5550b5590", x -> x.passenger(0, 1));
    brides.told("BRIDES 4 apart", 1, 56, x -> x.alike(0, 1));
    Edge odd = Edge.ferryAnd(due, "b5550b5580", x -> x.passenger(0, 1));
    odd.refused("BRIDES 3 apart", Edge.NONE, x -> x.alike(0, 1));
  }

  /** "In how many ways", LANDED or not, on whichever BANK: the most are those that both can't. */
  private static void alikeWays(Due due) {
    Edge ends = Edge.ferryAnd(due, "p0000p0001", x -> { });
    ends.told("of 000 both: 4 times 4, and 3", 19, 0, x -> x.alike(0, 1));
    Edge other = Edge.ferryAnd(due, "p9990l9991", x -> { });
    other.told("a LIAR's the other way round", 19, 0, x -> x.alike(0, 1));
    other.told("the other one ahead", 19, 0, x -> x.alike(1, 0));
    Edge edge = Edge.ferryAnd(due, "p9990p8990", x -> { });
    // 999: None and three that can't be; 899 by 1. 899 by 2: 899 by None, or by 3, 5 that can't be.
    edge.told("one from the end", 4 + 3, 1, x -> x.alike(0, 1));
    edge.told("one from the end, the other way round", 4 + 3, 2, x -> x.alike(1, 0));
    Edge last = Edge.ferryAnd(due, "p5550p5530", x -> { });
    last.told("the last DECLARATION ahead", 1, 65, x -> x.alike(0, 1));
  }

  /** "the first one ahead of the other": the other CROSSES in the number behind. */
  private static void alikeOneAheadOfTheOther(Due due) {
    Edge even = Edge.ferryAnd(due, "s5550p7550", x -> { });
    even.told("a SAILOR ahead, in an even CROSSING", 1, 10, x -> x.alike(0, 1));
    even.told("a SAILOR behind, in an odd CROSSING", 1, 21, x -> x.alike(1, 0));
    Edge odd = Edge.ferryAnd(due, "s5550p7550", x -> x.cross(0, 0));
    odd.told("a SAILOR ahead, in an odd CROSSING", 1, 12, x -> x.alike(0, 1));
    odd.told("a SAILOR behind, in an even CROSSING", 1, 1, x -> x.alike(1, 0));
  }

  // ---- 30

  /** "n (0 .. 2) times each"; "BAD: also one and the same". */
  private static void duelRefused(Due due) {
    Edge e = Edge.ferryAnd(due, "p5550p5550p5550p5550p5550p6550", x -> x.passenger(0, 1));
    e.told("duel(0, 5, 0)", 1, -1, x -> x.duel(0, 5, 0));
    e.told("duel(5, 0, 2)", 1, 1, x -> x.duel(5, 0, 2));
    for (int n : Edge.outside(0, 2)) {
      e.refused("duel(0, 1, " + n + ")", Edge.BAD, x -> x.duel(0, 1, n));
    }
    for (int i = 0; i <= 5; i++) {
      int one = i;
      e.refused("duel(" + i + ", " + i + ", 1)", Edge.BAD, x -> x.duel(one, one, 1));
    }
    for (int i : Edge.outside(0, 5)) {
      e.refused("duel(" + i + ", 0, 1)", Edge.BAD, x -> x.duel(i, 0, 1));
      e.refused("duel(0, " + i + ", 1)", Edge.BAD, x -> x.duel(0, i, 1));
      e.refused("duel(" + i + ", " + i + ", 1)", Edge.BAD, x -> x.duel(i, i, 1));
    }
    Edge.ferryAnd(due, "p5550", x -> { }).refused("duel(0, 1, 0) of one", Edge.BAD, x -> x.duel(0, 1, 0));
  }

  private static void duelIs(Due due, String signs, int crossed, int none, int once, int twice) {
    Edge e = Edge.ferryAnd(due, signs, x -> {
      for (int k = 0; k < crossed; k++) {
        x.cross(0, 0);
      }
    });
    e.told("duel of " + signs + " behind " + crossed + ", none each", 1, none, x -> x.duel(0, 1, 0));
    e.told("duel of " + signs + " behind " + crossed + ", once each", 1, once, x -> x.duel(0, 1, 1));
    e.told("duel of " + signs + " behind " + crossed + ", twice each", 1, twice, x -> x.duel(0, 1, 2));
  }

  /** "By turns .. the first one begins": a SAILOR's numbers are those of its turns. */
  private static void duelTurns(Due due) {
    duelIs(due, "p5550p5550", 0, 0, 0, 0);
    duelIs(due, "b5550p5550", 0, 0, 1, 2);
    duelIs(due, "p5550b5550", 0, 0, -1, -2);
    duelIs(due, "s5550p5550", 0, 0, 1, 2);
    duelIs(due, "s5550p5550", 1, 0, 0, 0);
    duelIs(due, "p5550s5550", 0, 0, 0, 0);
    duelIs(due, "p5550s5550", 1, 0, -1, -2);
    duelIs(due, "s5550s5550", 0, 0, 1, 2);
    duelIs(due, "s5550s5550", 1, 0, -1, -2);
    duelIs(due, "l5550c5550", 0, 0, 0, 0);
    duelIs(due, "w5550l5550", 0, 0, 0, 0);
  }

  /** Who can't have more declares what leaves it as it is; nobody is made to have less. */
  private static void duelAtTheEnds(Due due) {
    duelIs(due, "p9990p0000", 0, 27, 26, 25);
    duelIs(due, "p0000p9990", 0, -27, -26, -25);
    duelIs(due, "p9980p9990", 0, -1, 0, 0);
    duelIs(due, "b8880p5550", 0, 9, 8, 7);
    duelIs(due, "b8870p5550", 0, 8, 9, 8);
    duelIs(due, "w9890l9990", 0, -1, 0, 0);
    duelIs(due, "c0000l9990", 0, -27, -26, -25);
    duelIs(due, "p0000b0000", 0, 0, -1, -2);
  }
}
