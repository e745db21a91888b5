/** The edges of promises 14 to 18: cross, set, undo, keep, on; and of THINGS, CROSSINGS, DEEDS. */
public final class EdgesOfDeedsTest {
  public static void main(String[] args) {
    Due due = new Due();
    thingsStayNoughtToNine(due);
    aWidowersThingsGoRound(due);
    roundIsWhereAndAsItWas(due);
    noneByKinds(due);
    crossRefused(due);
    crossingsAreCounted(due);
    fortyDeedsByCrossing(due);
    setTakesTheEnds(due);
    setRefused(due);
    fortyDeedsBySetting(due);
    undoEnds(due);
    undoOfForty(due);
    undoMakesRoom(due);
    keepRefused(due);
    keepIsApart(due);
    keptDeeds(due);
    onRefused(due);
    onIsAsItWasKept(due);
    onWithForty(due);
    due.end();
  }

  /** A FERRY of one who is looked at and one who CROSSES ahead of it to make the number odd. */
  private static FerryChange pair(char letter, int life, int number) {
    StringBuilder signs = new StringBuilder();
    signs.append(letter).append(life / 100).append(life / 10 % 10).append(life % 10).append("0p5550");
    FerryChange x = Due.ferry(signs.toString());
    for (int k = 0; k < number; k++) {
      x.cross(1, 0);
    }
    return x;
  }

  /** By how much the THING is other if it is declared to be more. */
  private static int byMore(char letter, int number) {
    switch (letter) {
      case 'b': return 2;
      case 's': return number % 2 == 0 ? 2 : 1;
      case 'l':
      case 'c': return -1;
      default: return 1;
    }
  }

  /** "something that can be (a THING stays 0 .. 9)": each KIND, each DECLARATION, each number, even and odd. */
  private static void thingsStayNoughtToNine(Due due) {
    int[] worth = {100, 10, 1};
    for (char letter : "pblwsc".toCharArray()) {
      for (int c = 1; c <= 6; c++) {
        int thing = letter == 'w' ? new int[] {1, 1, 2, 2, 0, 0}[c - 1] : (c - 1) / 2;
        for (int v = 0; v <= 9; v++) {
          for (int number = 0; number <= 3; number++) {
            int other = c % 2 == 1 ? byMore(letter, number) : -byMore(letter, number);
            boolean lands = v + other >= 0 && v + other <= 9;
            int life = 444 + (v - 4) * worth[thing];
            FerryChange x = pair(letter, life, number);
            String call = letter + " of " + life + " by " + c + " in " + number;
            due.is(call + ": would it?", x.passenger(0, 6) * x.asked() >> c & 1, lands ? 1 : 0);
            due.is(call, x.cross(0, c), lands ? 1 : 0);
            due.is(call + ": LIFE, BANK", Due.life(x, 0), lands ? 10 * (life + other * worth[thing]) + 1 : 10 * life);
          }
        }
      }
    }
  }

  /** "a WIDOWER's next THING .. (THING 0 behind 2)"; what it declares of stays, and need not be able to be. */
  private static void aWidowersThingsGoRound(Due due) {
    int[][] ways = {{999, 1, 0, 9990}, {909, 1, 1, 9191}, {900, 1, 1, 9101}, {990, 3, 1, 9911}, {99, 5, 1, 1991},
      {990, 5, 0, 9900}, {0, 6, 0, 0}, {100, 6, 1, 1}, {10, 2, 1, 1}, {1, 4, 1, 1}, {1, 2, 0, 10}};
    for (int[] way : ways) {
      FerryChange x = pair('w', way[0], 0);
      String call = "a WIDOWER of " + way[0] + " by " + way[1];
      due.is(call, x.cross(0, way[1]), way[2]);
      due.is(call + ": LIFE, BANK", Due.life(x, 0), way[3]);
    }
  }

  /** "else it goes ROUND: it is where it was, as it was": on either BANK; a DEED and a CROSSING all the same. */
  private static void roundIsWhereAndAsItWas(Due due) {
    for (int bank = 0; bank <= 1; bank++) {
      FerryChange x = Due.ferry("p999" + bank + "b888" + bank + "l000" + bank);
      for (int i = 0; i <= 2; i++) {
        int before = Due.life(x, i);
        due.is("ROUND " + i, x.cross(i, 1), 0);
        due.is("as it was " + i, Due.life(x, i), before);
        due.is("a CROSSING " + i, x.count(1), i + 1);
        due.is("a DEED " + i, x.count(2), i + 1);
      }
      due.is("LANDS", x.cross(0, 2), 1);
      due.is("on the other BANK", Due.life(x, 0), 8990 + 1 - bank);
      due.is("LANDS again", x.cross(0, 2), 1);
      due.is("on its BANK again", Due.life(x, 0), 7990 + bank);
    }
  }

  /** "By None nothing comes of anything"; "a CLERK LANDS by None, too": even at the ends. */
  private static void noneByKinds(Due due) {
    for (char letter : "pblwsc".toCharArray()) {
      for (int life : new int[] {0, 555, 999}) {
        for (int number = 0; number <= 1; number++) {
          FerryChange x = pair(letter, life, number);
          due.is(letter + " by None", x.cross(0, 0), letter == 'c' ? 1 : 0);
          due.is(letter + " by None: LIFE, BANK", Due.life(x, 0), 10 * life + (letter == 'c' ? 1 : 0));
        }
      }
    }
  }

  // ---- 14

  private static void crossRefused(Due due) {
    Edge e = Edge.busyAnd(due, x -> { });
    e.taken("cross(0, 0)", 0, x -> x.cross(0, 0));
    e.taken("cross(0, 6)", 1, x -> x.cross(0, 6));
    e.taken("cross(5, 0)", 1, x -> x.cross(5, 0));
    for (int i : Edge.outside(0, 5)) {
      e.refused("cross(" + i + ", 1)", Edge.BAD, x -> x.cross(i, 1));
    }
    for (int c : Edge.outside(0, 6)) {
      e.refused("cross(0, " + c + ")", Edge.BAD, x -> x.cross(0, c));
    }
    Edge one = Edge.ferryAnd(due, "p5550", x -> { });
    one.taken("cross(0, 1) of one", 1, x -> x.cross(0, 1));
    one.refused("cross(1, 1) of one", Edge.BAD, x -> x.cross(1, 1));
  }

  /** "CROSSING 0 is next at first"; "the CROSSING's number is 1 more" by each, and by nothing else. */
  private static void crossingsAreCounted(Due due) {
    FerryChange x = Due.ferry("p5550 s5550");
    due.is("CROSSING 0 is next", x.count(1), 0);
    for (int k = 0; k < 20; k++) {
      due.is("a SAILOR in CROSSING " + k, x.cross(1, k % 4 < 2 ? 2 : 1), 1);
      due.is("CROSSING " + (k + 1) + " is next", x.count(1), k + 1);
      x.set(0, 0, k % 2);
      due.is("none by a THING set", x.count(1), k + 1);
      due.is("DEEDS", x.count(2), 2 * k + 2);
    }
    due.is("by 2, 1 less, by 2, 1 more, five times", Due.life(x, 1), 5550);
  }

  private static void fill(FerryChange x, int deeds) {
    for (int k = 0; k < deeds; k++) {
      x.cross(0, k % 2 + 1);
    }
  }

  /** "(40 at most)"; "FULL: 40 DEEDS. (FULL last.)" */
  private static void fortyDeedsByCrossing(Due due) {
    Edge room = Edge.ferryAnd(due, "p5550 p5550", x -> fill(x, 39));
    room.taken("cross with 39 DEEDS", 1, x -> x.cross(0, 1));
    room.taken("cross, ROUND, with 39 DEEDS", 0, x -> x.cross(1, 0));
    room.taken("DEEDS then", 40, x -> x.cross(0, 1) * x.count(2));
    Edge full = Edge.ferryAnd(due, "p5550 p5550", x -> fill(x, 40));
    full.refused("cross with 40 DEEDS", Edge.FULL, x -> x.cross(0, 1));
    full.refused("cross, ROUND, with 40 DEEDS", Edge.FULL, x -> x.cross(0, 0));
    full.refused("cross of the other one with 40 DEEDS", Edge.FULL, x -> x.cross(1, 1));
    full.refused("BAD ahead of FULL: PASSENGER 2", Edge.BAD, x -> x.cross(2, 1));
    full.refused("BAD ahead of FULL: DECLARATION 7", Edge.BAD, x -> x.cross(0, 7));
    full.aside("40 CROSSINGS", 40, x -> x.count(1));
  }

  // ---- 15

  /** "A THING (0 .. 2) is set to a number (0 .. 9): what it was." No KIND hinders it, and no one CROSSES. */
  private static void setTakesTheEnds(Due due) {
    int[][] sets = {{0, 0, 5, 230}, {0, 9, 5, 9230}, {1, 0, 2, 5030}, {1, 9, 2, 5930}, {2, 0, 3, 5200}, {2, 9, 3, 5290}};
    for (int i = 0; i <= 5; i++) {
      for (int[] s : sets) {
        FerryChange x = Due.ferry("p5230b5230l5230w5230s5230c5230");
        due.is("set(" + i + ", " + s[0] + ", " + s[1] + ")", x.set(i, s[0], s[1]), s[2]);
        due.is("LIFE, BANK then", Due.life(x, i), s[3]);
        due.is("one DEED", x.count(2), 1);
        due.is("no CROSSING", x.count(1), 0);
        due.is("the one beside", Due.life(x, (i + 1) % 6), 5230);
      }
    }
    FerryChange x = Due.ferry("p0991");
    due.is("from 0 to 9", x.set(0, 0, 9), 0);
    due.is("from 9 to 0", x.set(0, 2, 0), 9);
    due.is("LIFE, BANK then", Due.life(x, 0), 9901);
  }

  /** "BAD; STATE: it is so". */
  private static void setRefused(Due due) {
    Edge e = Edge.busyAnd(due, x -> { });
    e.refused("set(0, 0, 6), it is so", Edge.STATE, x -> x.set(0, 0, 6));
    e.taken("set(0, 0, 5), it was so", 6, x -> x.set(0, 0, 5));
    e.refused("set(4, 2, 0), it is so", Edge.STATE, x -> x.set(4, 2, 0));
    e.refused("set(2, 2, 9), it is so", Edge.STATE, x -> x.set(2, 2, 9));
    for (int i : Edge.outside(0, 5)) {
      e.refused("set(" + i + ", 0, 1)", Edge.BAD, x -> x.set(i, 0, 1));
    }
    for (int thing : Edge.outside(0, 2)) {
      e.refused("set(0, " + thing + ", 1)", Edge.BAD, x -> x.set(0, thing, 1));
    }
    for (int v : Edge.outside(0, 9)) {
      e.refused("set(0, 0, " + v + ")", Edge.BAD, x -> x.set(0, 0, v));
    }
    Edge.ferryAnd(due, "p5550", x -> { }).refused("set(1, 0, 1) of one", Edge.BAD, x -> x.set(1, 0, 1));
  }

  /** "FULL. (FULL last.)": behind BAD and STATE. */
  private static void fortyDeedsBySetting(Due due) {
    Edge room = Edge.ferryAnd(due, "p5550", x -> fill(x, 39));
    room.taken("set with 39 DEEDS", 6, x -> x.set(0, 0, 1));
    room.refused("STATE with 39 DEEDS", Edge.STATE, x -> x.set(0, 0, 6));
    Edge full = Edge.ferryAnd(due, "p5550", x -> fill(x, 40));
    full.refused("set with 40 DEEDS", Edge.FULL, x -> x.set(0, 0, 1));
    full.refused("STATE ahead of FULL", Edge.STATE, x -> x.set(0, 0, 5));
    full.refused("BAD ahead of FULL", Edge.BAD, x -> x.set(0, 0, 10));
    Edge bySets = Edge.ferryAnd(due, "p5550", x -> {
      for (int k = 0; k < 40; k++) {
        x.set(0, 1, k % 2);
      }
    });
    bySets.refused("set behind 40 sets", Edge.FULL, x -> x.set(0, 1, 5));
    bySets.refused("cross behind 40 sets", Edge.FULL, x -> x.cross(0, 1));
  }

  // ---- 16

  /** "DEEDS from number n on are undone: how many (n up to how many there are)." */
  private static void undoEnds(Due due) {
    Edge e = Edge.busyAnd(due, x -> { });
    e.aside("undo(2) of two", 0, x -> x.undo(2));
    e.taken("undo(1) of two", 1, x -> x.undo(1));
    e.taken("undo(0) of two", 2, x -> x.undo(0));
    for (int n : Edge.outside(0, 2)) {
      e.refused("undo(" + n + ") of two", Edge.BAD, x -> x.undo(n));
    }
    Edge none = Edge.ferryAnd(due, "p5550", x -> { });
    none.aside("undo(0) of none", 0, x -> x.undo(0));
    none.refused("undo(1) of none", Edge.BAD, x -> x.undo(1));
    none.refused("undo(-1) of none", Edge.BAD, x -> x.undo(-1));
    Edge again = Edge.ferryAnd(due, "p5550", x -> {
      fill(x, 3);
      x.undo(1);
    });
    again.aside("undo(1) of one that is left", 0, x -> x.undo(1));
    again.refused("undo(2), a DEED that is undone", Edge.BAD, x -> x.undo(2));
  }

  /** A DEED in any case: a THING is set to 1 more (0 behind 9), or one CROSSES, to LAND or to go ROUND. */
  private static void deed(FerryChange x, int k) {
    int i = k % 3;
    if (k % 4 == 0) {
      x.passenger(i, 2);
      x.set(i, 1, (x.asked() + 1) % 10);
    } else {
      x.cross(i, k % 7);
    }
  }

  /** Each number of DEEDS up to 40: all is as it was ahead of that DEED, by one step and by many. */
  private static void undoOfForty(Due due) {
    long[] ahead = new long[41];
    FerryChange all = Due.ferry("p5550 s9991 c0000");
    for (int k = 0; k <= 40; k++) {
      ahead[k] = all.digest();
      due.is("DEEDS", all.count(2), k);
      deed(all, k);
    }
    for (int n = 39; n >= 0; n--) {
      due.is("undo(" + n + ") of " + (n + 1), all.undo(n), 1);
      due.is("as ahead of DEED " + n, all.digest() == ahead[n] ? 1 : 0, 1);
    }
    for (int n = 0; n <= 40; n++) {
      FerryChange x = Due.ferry("p5550 s9991 c0000");
      for (int k = 0; k < 40; k++) {
        deed(x, k);
      }
      due.is("undo(41) of 40", x.undo(41), Edge.BAD);
      due.is("undo(" + n + ") of 40", x.undo(n), 40 - n);
      due.is("as ahead of DEED " + n, x.digest() == ahead[n] ? 1 : 0, 1);
      due.is("undo all that are left", x.undo(0), n);
      due.is("as at first", x.digest() == ahead[0] ? 1 : 0, 1);
    }
  }

  private static void undoMakesRoom(Due due) {
    Edge e = Edge.ferryAnd(due, "p5550", x -> {
      fill(x, 40);
      x.undo(39);
    });
    e.taken("cross behind undo(39)", 1, x -> x.cross(0, 2));
    e.taken("set behind undo(39)", 6, x -> x.set(0, 0, 9));
    e.taken("40 DEEDS again", Edge.FULL, x -> x.cross(0, 2) * x.set(0, 0, 9));
  }

  // ---- 17

  /** "BAD; STATE: no PASSENGERS": BAD is ahead. */
  private static void keepRefused(Due due) {
    Edge e = Edge.busyAnd(due, x -> { });
    e.taken("keep(0)", 2, x -> x.keep(0));
    e.taken("keep(2), over another", 2, x -> x.keep(2));
    Edge none = new Edge(due, x -> { });
    for (int k : Edge.outside(0, 2)) {
      e.refused("keep(" + k + ")", Edge.BAD, x -> x.keep(k));
      none.refused("keep(" + k + ") of no PASSENGERS", Edge.BAD, x -> x.keep(k));
    }
    none.refused("keep(0) of no PASSENGERS", Edge.STATE, x -> x.keep(0));
    none.refused("keep(2) of no PASSENGERS", Edge.STATE, x -> x.keep(2));
  }

  /** "(as it is, DEEDS)": what is kept, and what was ahead of its DEEDS, is not changed by what is done then. */
  private static void keepIsApart(Due due) {
    for (int k = 0; k <= 2; k++) {
      FerryChange x = Due.ferry("p5550 s9991");
      x.set(0, 2, 0);
      x.cross(0, 1);
      x.keep(k);
      // DEEDS of the other one, on the other BANK, in CROSSINGS of other numbers.
      x.undo(0);
      x.cross(1, 0);
      x.cross(1, 2);
      x.lots(5, 3);
      due.is("one is kept", x.count(9), 1);
      due.is("on(" + k + ")", x.on(k), 2);
      due.is("LIFE and BANK as kept", Due.life(x, 0), 6501);
      due.is("the other one as kept", Due.life(x, 1), 9991);
      due.is("the next CROSSING as kept", x.count(1), 1);
      due.is("undo(1)", x.undo(1), 1);
      due.is("LIFE and BANK ahead of the last DEED", Due.life(x, 0), 5500);
      due.is("CROSSING ahead of the last DEED", x.count(1), 0);
      due.is("undo(0)", x.undo(0), 1);
      due.is("LIFE and BANK at first", Due.life(x, 0), 5550);
      due.is("the other one at first", Due.life(x, 1), 9991);
      due.is("CROSSING at first", x.count(1), 0);
    }
  }

  /** "how many DEEDS": none, 40. */
  private static void keptDeeds(Due due) {
    Edge none = Edge.ferryAnd(due, "p5550", x -> { });
    none.taken("keep with no DEEDS", 0, x -> x.keep(0));
    none.taken("on with no DEEDS", 0, x -> x.keep(0) + x.on(0));
    Edge full = Edge.ferryAnd(due, "p5550", x -> fill(x, 40));
    full.taken("keep with 40 DEEDS", 40, x -> x.keep(0));
    full.taken("on with 40 DEEDS", 40, x -> x.keep(0) * 0 + x.on(0));
  }

  // ---- 18

  /** "BAD; NOTHING": a kept FERRY that is missing. */
  private static void onRefused(Due due) {
    Edge e = Edge.busyAnd(due, x -> { });
    e.taken("on(1)", 2, x -> x.on(1));
    e.taken("on(2)", 0, x -> x.on(2));
    e.finds("on(0)", Edge.NOTHING, x -> x.on(0));
    Edge first = Edge.ferryAnd(due, "p5550", x -> x.keep(0));
    first.taken("on(0)", 0, x -> x.on(0));
    first.finds("on(1)", Edge.NOTHING, x -> x.on(1));
    first.finds("on(2)", Edge.NOTHING, x -> x.on(2));
    for (int k : Edge.outside(0, 2)) {
      e.refused("on(" + k + ")", Edge.BAD, x -> x.on(k));
    }
  }

  /** The three places are apart; a kept one is gone on from again and again. */
  private static void onIsAsItWasKept(Due due) {
    FerryChange x = Due.ferry("p5550 b5550");
    x.keep(0);
    x.cross(0, 1);
    x.keep(1);
    x.set(1, 1, 0);
    x.keep(2);
    int[] first = {5550, 6551, 6551};
    int[] other = {5550, 5550, 5050};
    for (int round = 0; round < 2; round++) {
      for (int k = 2; k >= 0; k--) {
        due.is("on(" + k + ")", x.on(k), k);
        due.is("the first one", Due.life(x, 0), first[k]);
        due.is("the other one", Due.life(x, 1), other[k]);
        due.is("the next CROSSING", x.count(1), Math.min(k, 1));
        due.is("still kept", x.count(9), 3);
        due.is("goes on", x.cross(1, 2) * x.count(2), k + 1);
        due.is("undone to the first DEED", x.undo(0), k + 1);
        due.is("as at first", Due.life(x, 0) * 10000L + Due.life(x, 1), 55505550L);
      }
    }
  }

  private static void onWithForty(Due due) {
    Edge e = Edge.ferryAnd(due, "p5550", x -> {
      fill(x, 40);
      x.keep(0);
      x.undo(0);
    });
    e.taken("room ahead of it", 1, x -> x.cross(0, 1));
    e.taken("FULL behind on", Edge.FULL, x -> x.on(0) * 0 + x.cross(0, 1));
    e.taken("undone behind on", 40, x -> x.on(0) * 0 + x.undo(0));
  }
}
