/** The edges of promises 34 to 40: asked, upper, lower, count, finding, findings, digest; and of 512 calls. */
public final class EdgesOfToldTest {
  public static void main(String[] args) {
    Due due = new Due();
    askedBefore(due);
    askedOfRefused(due);
    askedOfNone(due);
    askedIsNotOfTheOthers(due);
    askedOutlivesAll(due);
    upperAndLowerBefore(due);
    upperAndLowerOfRefused(due);
    upperAndLowerAreToldAnew(due);
    countRefused(due);
    countOfNoneAndOfAll(due);
    findingBefore(due);
    findingOfOtherRefusals(due);
    eachFinding(due);
    findingsRefused(due);
    digestOfNothing(due);
    digestOfMissingAndEmpty(due);
    digestOfKept(due);
    digestOfAll(due);
    digestIsNotOfWhatIsTold(due);
    fiveHundredAndTwelveCalls(due);
    due.end();
  }

  private interface Teller {
    int on(FerryChange x);
  }

  private static final String SIX = "p5550b8551l5550w5551s8550c5551";

  private static FerryChange told(int asked) {
    FerryChange x = Due.ferry(SIX);
    Due.row(x, 0, asked);
    Due.row(x, 1, 1, 1);
    x.row(2, 0);
    Due.row(x, 3, 0, 0, 0);
    x.at(0, 0);
    return x;
  }

  // ---- 34

  /** "0 before". */
  private static void askedBefore(Due due) {
    FerryChange x = new FerryChange();
    due.is("asked() of a new object", x.asked(), 0);
    x.at(0, 0);
    x.mean(9);
    x.row(0, 1);
    due.is("asked() still", x.asked(), 0);
  }

  /** "that was not refused": each of the twelve calls, by BAD, by STATE, by a FINDING. */
  private static void askedOfRefused(Due due) {
    Teller[] refused = {x -> x.lay(6, 0, 1), x -> x.lay(4, 0, 1), x -> x.lay(0, 1, 1), x -> x.at(-1, 0), x -> x.at(4, 0),
      x -> x.at(0, -1), x -> x.mean(6), x -> x.mean(4), x -> x.mean(2), x -> x.passenger(6, 0), x -> x.passenger(0, 7),
      x -> x.changes(0, 7, 0), x -> x.changes(0, 1, 100), x -> x.run(6, 1), x -> x.run(0, 4), x -> x.run(0, 0),
      x -> x.next(6, 1), x -> x.next(0, 4), x -> x.next(0, 0), x -> x.boats(100), x -> x.sets(181), x -> x.sure(181),
      x -> x.sure(180), x -> x.alike(0, 0), x -> x.alike(0, 6), x -> x.duel(0, 0, 1), x -> x.duel(0, 1, 3)};
    for (int k = 0; k < refused.length; k++) {
      FerryChange x = told(99);
      due.is("refused " + k, refused[k].on(x) < 0 ? 1 : 0, 1);
      due.is("refused " + k + ": asked()", x.asked(), 99);
    }
    FerryChange none = new FerryChange();
    Due.row(none, 0, 99);
    none.at(0, 0);
    due.is("STATE", none.boats(1) + none.sets(1) + none.sure(1), 3 * Edge.STATE);
    due.is("STATE: asked()", none.asked(), 99);
  }

  /** "(nor NONE)": next(), boats(), alike(). But sets() tells NONE by asked() itself. */
  private static void askedOfNone(Due due) {
    FerryChange x = told(99);
    due.is("next", x.next(0, 1), Edge.NONE);
    due.is("next: asked()", x.asked(), 99);
    due.is("boats", x.boats(15), Edge.NONE);
    due.is("boats: asked()", x.asked(), 99);
    due.is("alike", x.alike(0, 4), Edge.NONE);
    due.is("alike: asked()", x.asked(), 99);
    due.is("sets", x.sets(180), 1);
    due.is("sets: asked()", x.asked(), Edge.NONE);
  }

  /** Only these twelve calls tell by asked(). */
  private static void askedIsNotOfTheOthers(Due due) {
    Teller[] others = {x -> x.row(4, 1), x -> x.tear(2), x -> x.copy(1, 0, 1, 1, 1), x -> x.text(1, 4), x -> x.put(0, 0, 'b'),
      x -> x.fault(0), x -> x.ferry(0), x -> x.mark(1, 1), x -> x.cross(0, 1), x -> x.set(0, 0, 1), x -> x.undo(0),
      x -> x.keep(0), x -> x.keep(0) + x.on(0), x -> x.fewest(0, 3, -1, 4), x -> x.lives(0, 4), x -> x.declared(0, 3),
      x -> x.kinds(0, 2), x -> x.odds(0, 1, 3), x -> x.mid(0, 1, 3), x -> x.lots(3, 3), x -> x.asked(),
      x -> (int) x.upper(), x -> (int) x.lower(), x -> x.count(4), x -> x.finding(), x -> x.findings(1), x -> (int) x.digest()};
    for (int k = 0; k < others.length; k++) {
      FerryChange x = told(99);
      others[k].on(x);
      due.is("call " + k + ": asked()", x.asked(), 99);
    }
  }

  /** It is told what was asked, not what is now: also when the ROW, the FERRY is another one. */
  private static void askedOutlivesAll(Due due) {
    FerryChange x = told(99);
    x.tear(0);
    x.ferry(0);
    due.is("asked() behind tear, ferry", x.asked(), 99);
    due.is("asked() again", x.asked(), 99);
    Due.row(x, 0, Integer.MIN_VALUE, Integer.MAX_VALUE);
    due.told(x, "the least int", x.at(0, 0), Integer.MIN_VALUE);
    due.told(x, "the greatest int", x.at(0, 1), Integer.MAX_VALUE);
  }

  // ---- 35, 36

  /** "0 before", "1 before". */
  private static void upperAndLowerBefore(Due due) {
    FerryChange x = told(99);
    x.passenger(0, 5);
    x.sure(15);
    x.boats(99);
    x.lives(6, 0);
    x.sets(181);
    x.odds(0, 2, 0);
    x.mid(0, 4, 0);
    due.is("upper() before", x.upper(), 0);
    due.is("lower() before", x.lower(), 1);
  }

  private static void upperAndLowerOfRefused(Due due) {
    Teller[] refused = {x -> x.lives(6, 0), x -> x.lives(0, 5), x -> x.sets(-1), x -> x.sets(181), x -> x.odds(0, 1, 13),
      x -> x.odds(0, 4, 1), x -> x.odds(0, 2, 1), x -> x.odds(0, 0, 1), x -> x.mid(0, 1, 13), x -> x.mid(0, 4, 1),
      x -> x.mid(0, 2, 1), x -> x.mid(0, 0, 1)};
    for (int k = 0; k < refused.length; k++) {
      FerryChange x = told(99);
      x.row(4, 1);
      x.lay(4, 0, 1);
      x.odds(0, 4, 5);
      x.tear(4);
      due.is("refused " + k, refused[k].on(x) < 0 ? 1 : 0, 1);
      due.is("refused " + k + ": upper()", x.upper(), 7);
      due.is("refused " + k + ": lower()", x.lower(), 12);
    }
  }

  /** lives(), sets(), odds(), mid(): lower() is 1 again where the number is whole, or is 0. */
  private static void upperAndLowerAreToldAnew(Due due) {
    Teller[] tellers = {x -> x.lives(0, 1), x -> x.sets(15), x -> x.sets(180), x -> x.odds(0, 1, 12), x -> x.mid(0, 1, 0)};
    long[] upper = {7, 4, 0, 0, 17};
    for (int k = 0; k < tellers.length; k++) {
      FerryChange x = told(99);
      x.row(4, 1);
      x.lay(4, 0, 1);
      x.odds(0, 4, 5);
      due.parts(x, "told anew " + k, tellers[k].on(x), upper[k], 1);
    }
  }

  // ---- 37

  private static void countRefused(Due due) {
    Edge e = Edge.busyAnd(due, x -> { });
    e.aside("count(0)", 6, x -> x.count(0));
    e.aside("count(9)", 2, x -> x.count(9));
    for (int what : Edge.outside(0, 9)) {
      e.refused("count(" + what + ")", Edge.BAD, x -> x.count(what));
    }
  }

  private static void countsAre(Due due, String when, FerryChange x, int... want) {
    for (int what = 0; what <= 9; what++) {
      due.is(when + ": count(" + what + ")", x.count(what), want[what]);
    }
  }

  /** The least and the most of each. */
  private static void countOfNoneAndOfAll(Due due) {
    FerryChange x = new FerryChange();
    countsAre(due, "nothing", x, 0, 0, 0, 0, 0, 0, 0, 0, 0, 0);
    Due.text(x, 0, "p0000");
    x.ferry(0);
    countsAre(due, "the least", x, 1, 0, 0, 0, 0, 0, 0, 0, 1, 0);
    Due.text(x, 0, "b9991s9991b9991s9991b9991s9991");
    x.ferry(0);
    for (int k = 0; k < 40; k++) {
      x.cross(k % 6, 0);
    }
    for (int k = 0; k <= 2; k++) {
      x.keep(k);
    }
    for (int r = 0; r <= 5; r++) {
      x.row(r, 0);
    }
    for (int t = 1; t <= 3; t++) {
      x.text(t, 0);
    }
    countsAre(due, "the most, BRIDES", x, 6, 40, 40, 63, 168, 6, 0, 6, 4, 3);
    Due.text(x, 3, "l0001c0001l0001c0001l0001c0000");
    x.ferry(3);
    countsAre(due, "the most, LIARS", x, 6, 0, 0, 31, 0, 0, 6, 6, 4, 0);
    Due.text(x, 3, "p0000w0001");
    x.ferry(3);
    countsAre(due, "neither", x, 2, 0, 0, 2, 0, 0, 0, 6, 4, 0);
    x.tear(0);
    due.is("one ROW fewer", x.count(7), 5);
  }

  // ---- 38, 39

  /** "(0 before any)". */
  private static void findingBefore(Due due) {
    Edge e = new Edge(due, x -> x.row(9, 1));
    e.aside("finding() before any", 0, x -> x.finding());
    for (int f = 1; f <= 5; f++) {
      int it = f;
      e.aside("findings(" + f + ") before any", 0, x -> x.findings(it));
    }
  }

  /** BAD, FULL, STATE, NONE, -100 are no FINDINGS; the latest stays through them, and through what is taken. */
  private static void findingOfOtherRefusals(Due due) {
    FerryChange x = Due.ferry("p5550");
    x.mark(0, 1);
    x.lots(20, 1);
    x.lots(20, 2);
    x.row(0, 41);
    x.cross(0, 1);
    x.set(0, 0, Due.life(x, 0) / 1000);
    x.changes(0, 9, 0);
    x.boats(0);
    x.findings(6);
    x.row(0, 1);
    due.is("the latest stays", x.finding(), Edge.UNLIKE);
    int[] want = {0, 0, 1, 0, 0};
    for (int f = 1; f <= 5; f++) {
      due.is("findings(" + f + ")", x.findings(f), want[f - 1]);
    }
  }

  /** Terms: "1 NOTHING .. 2 BEYOND .. 3 UNLIKE .. 4 NOUGHT .. 5 SIZE", each by each of what it is for. */
  private static void eachFinding(Due due) {
    Edge e = Edge.busyAnd(due, x -> {
      x.row(0, 0);
      Due.row(x, 1, 7);
      x.row(2, 21);
    });
    e.finds("1: a ROW that is missing", 1, x -> x.at(3, 0));
    e.finds("1: a TEXT that is missing", 1, x -> x.fault(3));
    e.finds("1: a kept FERRY that is missing", 1, x -> x.on(0));
    e.finds("2: a place of a ROW", 2, x -> x.at(0, 0));
    e.finds("2: a place of a TEXT", 2, x -> x.put(0, 31, 0));
    e.finds("3: another KIND", 3, x -> x.mark(0, 5));
    e.finds("3: a number that is none", 3, x -> x.run(0, 1));
    e.finds("4: shared among none", 4, x -> x.mean(0));
    e.finds("4: nothing fits", 4, x -> x.sure(180));
    e.finds("5: fewer than none", 5, x -> x.row(3, -1));
    e.finds("5: too many", 5, x -> x.run(0, 2));
    e.finds("5: not as many as due", 5, x -> x.declared(0, 1));
    FerryChange x = new FerryChange();
    for (int k = 1; k <= 3; k++) {
      x.at(0, 0);
      due.is("how often", x.findings(1), k);
    }
    x.row(0, -1);
    due.is("the latest", x.finding(), 5);
    x.at(0, 0);
    due.is("the latest again", x.finding(), 1);
    due.is("how often", x.findings(1), 4);
    due.is("how often the other", x.findings(5), 1);
  }

  /** "a FINDING (1 .. 5)"; "BAD". */
  private static void findingsRefused(Due due) {
    Edge e = Edge.busyAnd(due, x -> { });
    e.aside("findings(1)", 0, x -> x.findings(1));
    e.aside("findings(3)", 1, x -> x.findings(3));
    e.aside("findings(5)", 0, x -> x.findings(5));
    for (int f : Edge.outside(1, 5)) {
      e.refused("findings(" + f + ")", Edge.BAD, x -> x.findings(f));
    }
  }

  // ---- 40

  private static long digestOf(long... all) {
    long h = 17;
    for (long v : all) {
      h = 31 * h + v;
    }
    return h;
  }

  private static void digestOfNothing(Due due) {
    due.is("digest of a new object", new FerryChange().digest(),
        digestOf(0, 0, 0, 0, 0, 0, 0, 0, 0, 0, -1, -1, -1, -1, -1, -1, -1, -1, -1, -1, -1, -1, -1));
  }

  /** "its size (-1: missing) and places": a ROW, a TEXT of none is 0, not -1. */
  private static void digestOfMissingAndEmpty(Due due) {
    FerryChange x = new FerryChange();
    x.row(0, 0);
    x.text(3, 0);
    due.is("digest of empty ones", x.digest(),
        digestOf(0, 0, 0, 0, 0, 0, 0, 1, 1, 0, -1, -1, -1, 0, -1, -1, -1, -1, -1, -1, -1, -1, 0));
    x.tear(0);
    Due.row(x, 5, Integer.MIN_VALUE, Integer.MAX_VALUE, -1);
    x.text(0, 3);
    x.put(0, 0, 127);
    x.put(0, 1, 128);
    due.is("digest of the greatest and the least", x.digest(),
        digestOf(0, 0, 0, 0, 0, 0, 0, 1, 2, 0, -1, -1, -1, -1, -1, -1, -1, -1, 3, Integer.MIN_VALUE, Integer.MAX_VALUE, -1,
            3, 127, -128, 32, -1, -1, 0));
  }

  /** "of each kept FERRY how many DEEDS (-1: missing)": none is 0. */
  private static void digestOfKept(Due due) {
    FerryChange x = Due.ferry("p0000");
    x.keep(1);
    x.cross(0, 0);
    x.keep(2);
    due.is("digest of kept ones", x.digest(),
        digestOf(1, 1, 1, 0, 0, 0, 0, 0, 1, 2, 0, 0, 0, 0, 0, 0, 42, -1, 0, 1, -1, -1, -1, -1, -1, -1,
            5, 'p', '0', '0', '0', '0', -1, -1, -1));
  }

  /** All there is, as full as it can be; 31 h wraps around. */
  private static void digestOfAll(Due due) {
    FerryChange x = Due.ferry("b9991s9991b9991s9991b9991s9991");
    for (int k = 0; k < 40; k++) {
      x.cross(k % 6, 0);
    }
    for (int k = 0; k <= 2; k++) {
      x.keep(k);
    }
    java.util.List<Long> all = new java.util.ArrayList<>();
    for (long v : new long[] {6, 40, 40, 63, 168, 6, 0, 6, 4, 3}) {
      all.add(v);
    }
    for (int i = 0; i < 6; i++) {
      for (long v : new long[] {i % 2 == 0 ? 1 : 4, 9, 9, 9, 1, 28, 4 + 16 + 64}) {
        all.add(v);
      }
    }
    for (int k = 0; k <= 2; k++) {
      all.add(40L);
    }
    for (int r = 0; r <= 5; r++) {
      x.row(r, 40);
      x.lay(r, 39, -r);
      all.add(40L);
      for (int i = 0; i < 40; i++) {
        all.add(i == 39 ? (long) -r : 0L);
      }
    }
    for (int t = 0; t <= 3; t++) {
      x.text(t, 60);
      x.put(t, 59, 200 + t);
      all.add(60L);
      for (int i = 0; i < 60; i++) {
        all.add(i == 59 ? (long) (200 + t - 256) : 32L);
      }
    }
    long[] values = new long[all.size()];
    for (int k = 0; k < values.length; k++) {
      values[k] = all.get(k);
    }
    due.is("digest of all", x.digest(), digestOf(values));
  }

  /** What is told, and FINDINGS, are not in it; and it changes nothing. */
  private static void digestIsNotOfWhatIsTold(Due due) {
    FerryChange x = told(99);
    long digest = x.digest();
    x.at(1, 0);
    x.lives(0, 2);
    x.at(4, 0);
    x.undo(0);
    due.is("digest stays", x.digest() == digest ? 1 : 0, 1);
    due.is("digest again", x.digest() == digest ? 1 : 0, 1);
    Edge.busyAnd(due, y -> { }).aside("digest is aside", 0, y -> y.digest() * 0);
  }

  // ---- the line ahead of the face

  /** "An object is used for at most 512 calls": the last of them is answered as the first. */
  private static void fiveHundredAndTwelveCalls(Due due) {
    FerryChange x = new FerryChange();
    for (int k = 1; k <= 511; k++) {
      due.is("call " + k, x.at(k % 6, k), FerryChange.FINDING);
    }
    due.is("call 512", x.findings(1), 511);
    FerryChange y = Due.ferry("p5550 s5550");
    int calls = 13;
    for (; calls + 3 <= 511; calls += 3) {
      due.is("cross behind " + calls + " calls", y.cross(1, 1), 1);
      due.is("keep behind " + calls + " calls", y.keep(calls / 3 % 3), 1);
      due.is("undo behind " + calls + " calls", y.undo(0), 1);
    }
    due.is("on in call " + (calls + 1), y.on(0), 1);
    FerryChange z = Due.ferry("p5550 s5550");
    for (int k = 0; k < 498; k++) {
      z.row(k % 6, 40);
    }
    due.is("call 512 of a third one", z.lives(1, 4), 1);
  }
}
