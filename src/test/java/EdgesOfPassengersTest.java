/** The edges of promises 12 and 13: passenger, mark; and of WEIGHTS. */
public final class EdgesOfPassengersTest {
  public static void main(String[] args) {
    Due due = new Due();
    passengerRefused(due);
    passengerTellsEnds(due);
    weights(due);
    landingsAtTheEnds(due);
    landingsOneFromTheEnds(due);
    markRefused(due);
    markUnlike(due);
    markOfBrides(due);
    markOfLiars(due);
    markOfWidowers(due);
    markOfSailors(due);
    markOfClerks(due);
    due.end();
  }

  // ---- 12

  /** "BAD": a PASSENGER, a what that is none. */
  private static void passengerRefused(Due due) {
    Edge six = Edge.busyAnd(due, x -> { });
    six.told("passenger(0, 0)", 1, 0, x -> x.passenger(0, 0));
    six.told("passenger(5, 0)", 1, 5, x -> x.passenger(5, 0));
    six.told("passenger(5, 6)", 1, 127, x -> x.passenger(5, 6));
    for (int i : Edge.outside(0, 5)) {
      six.refused("passenger(" + i + ", 0)", Edge.BAD, x -> x.passenger(i, 0));
    }
    for (int what : Edge.outside(0, 6)) {
      six.refused("passenger(0, " + what + ")", Edge.BAD, x -> x.passenger(0, what));
    }
    Edge one = Edge.ferryAnd(due, "p1230", x -> { });
    one.told("passenger(0, 1) of one", 1, 1, x -> x.passenger(0, 1));
    one.refused("passenger(1, 1) of one", Edge.BAD, x -> x.passenger(1, 1));
    Edge fewer = Edge.busyAnd(due, x -> {
      Due.text(x, 1, "c0000p0000");
      x.ferry(1);
    });
    fewer.told("passenger(1, 0) of two, six ahead", 1, 0, x -> x.passenger(1, 0));
    fewer.refused("passenger(2, 0) of two, six ahead", Edge.BAD, x -> x.passenger(2, 0));
  }

  /** THINGS 0 and 9, BANKS 0 and 1. */
  private static void passengerTellsEnds(Due due) {
    Edge e = Edge.ferryAnd(due, "w0901l9090", x -> { });
    int[] first = {3, 0, 9, 0, 1, 9};
    int[] other = {2, 9, 0, 9, 0, 18};
    for (int what = 0; what <= 5; what++) {
      int it = what;
      e.told("passenger(0, " + what + ")", 1, first[what], x -> x.passenger(0, it));
      e.told("passenger(1, " + what + ")", 1, other[what], x -> x.passenger(1, it));
    }
  }

  /** "its THINGS together; a BRIDE's (SAILOR's, too) 1 more": from nothing to the most. */
  private static void weights(Due due) {
    String letters = "pblwsc";
    for (int kind = 0; kind <= 5; kind++) {
      int more = kind == 1 || kind == 4 ? 1 : 0;
      Edge.ferryAnd(due, letters.charAt(kind) + "0000", x -> { })
          .told("the least WEIGHT of " + kind, 1, more, x -> x.passenger(0, 5));
      Edge.ferryAnd(due, letters.charAt(kind) + "9991", x -> { })
          .told("the greatest WEIGHT of " + kind, 1, 27 + more, x -> x.passenger(0, 5));
    }
  }

  private static void landingsAre(Due due, String signs, int even, int odd) {
    Edge.ferryAnd(due, signs + "p5550", x -> { })
        .told("landings of " + signs + ", even", 1, even, x -> x.passenger(0, 6));
    Edge.ferryAnd(due, signs + "p5550", x -> x.cross(1, 0))
        .told("landings of " + signs + ", odd", 1, odd, x -> x.passenger(0, 6));
    Edge.ferryAnd(due, signs + "p5550", x -> x.set(1, 0, 0))
        .told("landings of " + signs + ", a THING set", 1, even, x -> x.passenger(0, 6));
  }

  /** Bits of what is more: 2, 8, 32; of what is less: 4, 16, 64; of None: 1. */
  private static void landingsAtTheEnds(Due due) {
    int more = 2 + 8 + 32;
    int less = 4 + 16 + 64;
    landingsAre(due, "p0000", more, more);
    landingsAre(due, "p9990", less, less);
    landingsAre(due, "b0000", more, more);
    landingsAre(due, "b9990", less, less);
    landingsAre(due, "l0000", less, less);
    landingsAre(due, "l9990", more, more);
    landingsAre(due, "w0000", more, more);
    landingsAre(due, "w9990", less, less);
    landingsAre(due, "s0000", more, more);
    landingsAre(due, "s9990", less, less);
    landingsAre(due, "c0000", less + 1, less + 1);
    landingsAre(due, "c9990", more + 1, more + 1);
    // A WIDOWER's THING 2 by what is declared of THING 1, THING 0 by what is declared of THING 2.
    landingsAre(due, "w0550", 127 - 1 - 64, 127 - 1 - 64);
    landingsAre(due, "w5590", 127 - 1 - 8, 127 - 1 - 8);
  }

  private static void landingsOneFromTheEnds(Due due) {
    int all = 126;
    int more = 2 + 8 + 32;
    int less = 4 + 16 + 64;
    landingsAre(due, "p1110", all, all);
    landingsAre(due, "p8880", all, all);
    landingsAre(due, "b1110", more, more);
    landingsAre(due, "b8880", less, less);
    landingsAre(due, "b2220", all, all);
    landingsAre(due, "b7770", all, all);
    landingsAre(due, "l1110", all, all);
    landingsAre(due, "l8880", all, all);
    landingsAre(due, "w1110", all, all);
    landingsAre(due, "w8880", all, all);
    landingsAre(due, "s1110", more, all);
    landingsAre(due, "s8880", less, all);
    landingsAre(due, "s2220", all, all);
    landingsAre(due, "s7770", all, all);
    landingsAre(due, "c1110", all + 1, all + 1);
    landingsAre(due, "c8880", all + 1, all + 1);
  }

  // ---- 13

  /** "BAD: also KIND 0; UNLIKE": BAD is ahead. */
  private static void markRefused(Due due) {
    Edge e = Edge.busyAnd(due, x -> { });
    e.aside("mark(1, 1)", 2, x -> x.mark(1, 1));
    e.aside("mark(5, 5)", 2, x -> x.mark(5, 5));
    for (int kind : Edge.outside(1, 5)) {
      e.refused("mark(0, " + kind + ")", Edge.BAD, x -> x.mark(0, kind));
      e.refused("mark(5, " + kind + ")", Edge.BAD, x -> x.mark(5, kind));
    }
    for (int i : Edge.outside(0, 5)) {
      e.refused("mark(" + i + ", 1)", Edge.BAD, x -> x.mark(i, 1));
      e.refused("mark(" + i + ", 0)", Edge.BAD, x -> x.mark(i, 0));
    }
    Edge.ferryAnd(due, "b0000", x -> { }).refused("mark(1, 1) of one", Edge.BAD, x -> x.mark(1, 1));
  }

  /** "a PASSENGER of another KIND": a SAILOR is a BRIDE, a CLERK a LIAR, and not the other way round. */
  private static void markUnlike(Due due) {
    Edge e = Edge.busyAnd(due, x -> { });
    String[] is = {"", "1", "2", "3", "14", "25"};
    for (int i = 0; i <= 5; i++) {
      for (int kind = 1; kind <= 5; kind++) {
        int one = i;
        int of = kind;
        if (is[i].indexOf('0' + kind) < 0) {
          e.finds("mark(" + i + ", " + kind + ")", Edge.UNLIKE, x -> x.mark(one, of));
        } else {
          e.taken("mark(" + i + ", " + kind + ") is told", 1, x -> x.mark(one, of) >= 0 ? 1 : 0);
        }
      }
    }
  }

  /** "by how much a THING would come to be more or less now": whether it can be or not. */
  private static void markOfBrides(Due due) {
    Edge even = Edge.ferryAnd(due, "b0000 s9990 b9990", x -> { });
    even.aside("a BRIDE, even", 2, x -> x.mark(0, 1));
    even.aside("a SAILOR as a BRIDE, even", 2, x -> x.mark(1, 1));
    even.aside("a BRIDE of 9s", 2, x -> x.mark(2, 1));
    Edge odd = Edge.ferryAnd(due, "b0000 s9990", x -> x.cross(0, 0));
    odd.aside("a BRIDE, odd", 2, x -> x.mark(0, 1));
    odd.aside("a SAILOR as a BRIDE, odd", 1, x -> x.mark(1, 1));
  }

  /** "by how many DECLARATIONS it would LAND now": 3 to 6 of a LIAR, 4 to 7 of a CLERK. */
  private static void markOfLiars(Due due) {
    Edge e = Edge.ferryAnd(due, "l0000 l5550 l9051 l1880 c0000 c5550", x -> { });
    e.aside("a LIAR of 0s", 3, x -> x.mark(0, 2));
    e.aside("a LIAR amidst", 6, x -> x.mark(1, 2));
    e.aside("a LIAR at two ends", 4, x -> x.mark(2, 2));
    e.aside("a LIAR one from its ends", 6, x -> x.mark(3, 2));
    e.aside("a CLERK of 0s, by None too", 4, x -> x.mark(4, 2));
    e.aside("a CLERK amidst, by None too", 7, x -> x.mark(5, 2));
  }

  /** "which of its THINGS is least (the first)": alike in all, in two. */
  private static void markOfWidowers(Due due) {
    Edge e = Edge.ferryAnd(due, "w0000 w9990 w1000 w9890 w9980 w0900", x -> { });
    int[] least = {0, 0, 1, 1, 2, 0};
    for (int i = 0; i <= 5; i++) {
      int one = i;
      e.aside("WIDOWER " + i, least[i], x -> x.mark(one, 3));
    }
  }

  /** "in how many CROSSINGS more one of an even number comes (0, 1)". */
  private static void markOfSailors(Due due) {
    for (int number = 0; number <= 40; number++) {
      int many = number;
      Edge e = Edge.ferryAnd(due, "s5550p5550", x -> {
        for (int k = 0; k < many; k++) {
          x.cross(1, 0);
        }
      });
      e.aside("a SAILOR in CROSSING " + number, number % 2, x -> x.mark(0, 4));
    }
  }

  /** "how many PASSENGERS are on its BANK besides": none, all the others. */
  private static void markOfClerks(Due due) {
    Edge.ferryAnd(due, "c0000", x -> { }).aside("a CLERK alone on BANK 0", 0, x -> x.mark(0, 5));
    Edge.ferryAnd(due, "c0001", x -> { }).aside("a CLERK alone on BANK 1", 0, x -> x.mark(0, 5));
    Edge all = Edge.ferryAnd(due, "c0000c0000p0000b0000l0000c0000", x -> { });
    all.aside("the first CLERK of six", 5, x -> x.mark(0, 5));
    all.aside("the last CLERK of six", 5, x -> x.mark(5, 5));
    Edge apart = Edge.ferryAnd(due, "c0000p0001b0001l0001w0001c0001", x -> { });
    apart.aside("a CLERK apart", 0, x -> x.mark(0, 5));
    apart.aside("a CLERK with four", 4, x -> x.mark(5, 5));
    apart.taken("a CLERK that went over to them", 5, x -> x.cross(0, 0) * x.mark(0, 5));
  }
}
