/** Promises 23 to 25: declared, kinds, next. */
public final class WhoTest {
  private static final int NOTHING = 1, UNLIKE = 3, SIZE = 5;

  public static void main(String[] args) {
    Due due = new Due();
    declared(due);
    kinds(due);
    next(due);
    pairsRefused(due);
    due.end();
  }

  private static void declaredIs(Due due, FerryChange x, int i, int want, int... wanted) {
    Due.row(x, 1, wanted);
    due.is("declared by " + i, x.declared(i, 1), want);
  }

  private static void declared(Due due) {
    FerryChange x = Due.ferry("p5230 b9090 l5230 w5230 s5550 c9990");
    declaredIs(due, x, 0, 127, -1, -1, -1);
    declaredIs(due, x, 0, 1, 5, 2, 3);
    declaredIs(due, x, 0, 2, 6, 2, 3);
    declaredIs(due, x, 0, 1 + 8 + 16 + 32 + 64, 5, -1, -1);
    declaredIs(due, x, 1, 1 + 2 + 16 + 32, 9, 0, 9);
    declaredIs(due, x, 1, 8, -1, 2, -1);
    declaredIs(due, x, 2, 4, 6, -1, -1);
    declaredIs(due, x, 3, 32, 6, -1, -1);
    declaredIs(due, x, 4, 2, 7, 5, 5);
    declaredIs(due, x, 4, 0, 6, 5, 5);
    declaredIs(due, x, 5, 1 + 4 + 16 + 64, 9, 9, 9);
    x.cross(0, 0);
    declaredIs(due, x, 4, 0, 7, 5, 5);
    declaredIs(due, x, 4, 2, 6, 5, 5);
    long before = x.digest();
    x.declared(4, 1);
    due.is("it is aside", x.digest() == before ? 1 : 0, 1);
    due.is("PASSENGER 6", x.declared(6, 1), -1);
    due.is("PASSENGER -1", x.declared(-1, 1), -1);
    due.is("ROW 6", x.declared(0, 6), -1);
    due.is("ROW -1", x.declared(0, -1), -1);
    due.finds(x, "no ROW", x.declared(0, 2), NOTHING);
    Due.row(x, 1, 10, 10);
    due.finds(x, "2 ints", x.declared(0, 1), SIZE);
    Due.row(x, 1, 1, 1, 1, 1);
    due.finds(x, "4 ints", x.declared(0, 1), SIZE);
    Due.row(x, 1, 1, 10, 1);
    due.finds(x, "10", x.declared(0, 1), UNLIKE);
    Due.row(x, 1, 1, 1, -2);
    due.finds(x, "-2", x.declared(0, 1), UNLIKE);
  }

  private static void kindsAre(Due due, FerryChange x, int want, int... pairs) {
    Due.row(x, 1, pairs);
    for (int i = 0; i < 6; i++) {
      due.is("kinds " + i, x.kinds(i, 1), want);
    }
  }

  private static void kinds(Due due) {
    FerryChange x = Due.ferry("p0550 b0550 l0551 w0550 s0551 c0550");
    kindsAre(due, x, 63);
    kindsAre(due, x, 63, 0, 10);
    kindsAre(due, x, 0, 0, 9);
    kindsAre(due, x, 1 + 8, 1, 11);
    Due.row(x, 1, 1, 11, 99);
    kindsAre(due, x, 1, 6, 9);
    kindsAre(due, x, 2 + 16, 1, 12);
    kindsAre(due, x, 4 + 32, 1, 10);
    kindsAre(due, x, 4 + 32, 2, 11);
    kindsAre(due, x, 8, 2, 9);
    kindsAre(due, x, 1 + 2 + 16, 2, 10);
    kindsAre(due, x, 16, 1, 12, 1, 13);
    kindsAre(due, x, 2, 1, 12, 1, 14);
    kindsAre(due, x, 1 + 8, 1, 11, 0, 11, 2, 10);
    kindsAre(due, x, 16, 0, 10, 1, 11, 1, 13);
    x.cross(0, 0);
    kindsAre(due, x, 1 + 8 + 16, 1, 11);
    kindsAre(due, x, 16, 1, 11, 1, 13);
    kindsAre(due, x, 63, 0, 10, 0, 10, 0, 10, 0, 10, 0, 10, 0, 10, 0, 10, 0, 10);
  }

  private static void nextIs(Due due, FerryChange x, int want, int part, int... pairs) {
    Due.row(x, 1, pairs);
    due.is("next", x.next(0, 1), want);
    due.is("next, asked()", x.asked(), part);
  }

  private static void next(Due due) {
    FerryChange x = Due.ferry("p5550");
    nextIs(due, x, 1, 2);
    nextIs(due, x, 0, 2, 1, 16);
    nextIs(due, x, 0, 2, 1, 17);
    nextIs(due, x, 0, 1, 1, 17, 1, 18);
    x.cross(0, 0);
    // By 1 and by 2 alike: a PASSENGER, a WIDOWER and a SAILOR come to 1 more.
    nextIs(due, x, 1, 3);
    FerryChange edge = Due.ferry("p0590");
    // A WIDOWER's THING 1, a LIAR's THING 0 that can't be: 13 14 16 .. against None's 14 for all.
    nextIs(due, edge, 1, 2);
    // Those who came to 15: a PASSENGER and a WIDOWER, told apart by THING 0, less.
    nextIs(due, edge, 2, 1, 1, 15);
    FerryChange most = Due.ferry("p9990");
    nextIs(due, most, 2, 2);
    Due.row(edge, 1, 1, 27);
    due.is("no KIND", edge.next(0, 1), -9);
    due.is("asked stays", edge.asked(), 0);
    due.told(edge, "asked", edge.at(1, 1), 27);
    due.is("no KIND", edge.next(0, 1), -9);
    due.is("asked stays", edge.asked(), 27);
  }

  private static void pairsRefused(Due due) {
    FerryChange x = Due.ferry("p5550");
    due.is("kinds: PASSENGER 1", x.kinds(1, 0), -1);
    due.is("kinds: PASSENGER -1", x.kinds(-1, 0), -1);
    due.is("kinds: ROW 6", x.kinds(0, 6), -1);
    due.is("kinds: ROW -1", x.kinds(0, -1), -1);
    due.is("next: PASSENGER 1", x.next(1, 0), -1);
    due.is("next: PASSENGER -1", x.next(-1, 0), -1);
    due.is("next: ROW 6", x.next(0, 6), -1);
    due.is("next: ROW -1", x.next(0, -1), -1);
    bothFind(due, x, NOTHING);
    Due.row(x, 0, 7);
    bothFind(due, x, SIZE);
    x.row(0, 17);
    bothFind(due, x, SIZE);
    x.row(0, 18);
    bothFind(due, x, SIZE);
    Due.row(x, 0, 7, 1);
    bothFind(due, x, UNLIKE);
    Due.row(x, 0, -1, 1);
    bothFind(due, x, UNLIKE);
    Due.row(x, 0, 1, 28);
    bothFind(due, x, UNLIKE);
    Due.row(x, 0, 1, 27, 1, -1);
    bothFind(due, x, UNLIKE);
    x.row(0, 16);
    due.is("8 pairs", x.kinds(0, 0), 0);
  }

  private static void bothFind(Due due, FerryChange x, int finding) {
    due.finds(x, "kinds", x.kinds(0, 0), finding);
    due.finds(x, "next", x.next(0, 0), finding);
  }
}
