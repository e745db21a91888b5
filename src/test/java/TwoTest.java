/** Promises 29 and 30: alike, duel. */
public final class TwoTest {
  public static void main(String[] args) {
    Due due = new Due();
    alike(due);
    duel(due);
    due.end();
  }

  private static void alikeIs(Due due, FerryChange x, int i, int j, int ways, int first) {
    due.is("alike(" + i + ", " + j + ")", x.alike(i, j), ways);
    due.is("alike(" + i + ", " + j + "), asked()", x.asked(), first);
  }

  private static void alike(Due due) {
    FerryChange x = Due.ferry("p5550 p5551 c5550 b5750 s5550 p9990");
    // All seven, each as the other one does.
    alikeIs(due, x, 0, 1, 7, 0);
    // A CLERK's go the other way round.
    alikeIs(due, x, 0, 2, 7, 0);
    // None and a BRIDE's less of THING 1; 5 5 5 and 2 in both ways is too far.
    alikeIs(due, x, 0, 3, 1, 4);
    alikeIs(due, x, 3, 0, 1, 40);
    // A SAILOR goes by 2 as the first one, by 1 as the other.
    alikeIs(due, x, 4, 3, 1 + 1, 4);
    alikeIs(due, x, 3, 4, 1, 40);
    alikeIs(due, x, 0, 4, 7, 0);
    alikeIs(due, x, 4, 0, 1, 0);
    x.passenger(0, 1);
    due.is("never alike", x.alike(0, 5), -9);
    due.is("asked stays", x.asked(), 5);
    x.cross(0, 0);
    alikeIs(due, x, 4, 0, 7, 0);
    alikeIs(due, x, 0, 4, 1, 0);
    long before = x.digest();
    x.alike(0, 1);
    due.is("it is aside", x.digest() == before ? 1 : 0, 1);
    FerryChange edge = Due.ferry("p0000 p0000");
    // Each has None and three that can't be: 16 ways, and three in which both LAND.
    alikeIs(due, edge, 0, 1, 19, 0);
    due.is("one and the same", x.alike(2, 2), -1);
    due.is("PASSENGER 6", x.alike(0, 6), -1);
    due.is("PASSENGER 6", x.alike(6, 0), -1);
    due.is("PASSENGER -1", x.alike(-1, 0), -1);
    due.is("PASSENGER -1", x.alike(0, -1), -1);
  }

  private static void duel(Due due) {
    FerryChange x = Due.ferry("p5550 b5550 l9990 w9880 s5550 c9980");
    due.told(x, "none each", x.duel(0, 1, 0), 0);
    due.told(x, "once each", x.duel(0, 1, 1), -1);
    due.told(x, "twice each", x.duel(0, 1, 2), -2);
    due.told(x, "the other way round", x.duel(1, 0, 2), 2);
    due.told(x, "at the end of it", x.duel(2, 3, 2), 0);
    due.told(x, "at the end of it", x.duel(5, 3, 2), 0);
    due.told(x, "a SAILOR begins in an even CROSSING", x.duel(4, 0, 2), 2);
    due.told(x, "a SAILOR comes behind, in odd CROSSINGS", x.duel(0, 4, 2), 0);
    x.cross(0, 0);
    due.told(x, "a SAILOR begins in an odd CROSSING", x.duel(4, 0, 2), 0);
    due.told(x, "a SAILOR comes behind, in even CROSSINGS", x.duel(0, 4, 2), -2);
    long before = x.digest();
    x.duel(0, 1, 2);
    due.is("it is aside", x.digest() == before ? 1 : 0, 1);
    due.is("n 3", x.duel(0, 1, 3), -1);
    due.is("n -1", x.duel(0, 1, -1), -1);
    due.is("one and the same", x.duel(2, 2, 1), -1);
    due.is("PASSENGER 6", x.duel(0, 6, 1), -1);
    due.is("PASSENGER 6", x.duel(6, 0, 1), -1);
    due.is("PASSENGER -1", x.duel(-1, 0, 1), -1);
    due.is("PASSENGER -1", x.duel(0, -1, 1), -1);
  }
}
