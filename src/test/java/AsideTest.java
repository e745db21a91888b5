/** Promises 19 to 22: changes, run, fewest, lives. */
public final class AsideTest {
  private static final int NOTHING = 1, UNLIKE = 3, SIZE = 5;

  public static void main(String[] args) {
    Due due = new Due();
    changes(due);
    run(due);
    fewest(due);
    fewestRefused(due);
    lives(due);
    due.end();
  }

  private static void changesAre(Due due, FerryChange x, int i, int number, int... want) {
    for (int c = 0; c <= 6; c++) {
      String call = "changes(" + i + ", " + c + ", " + number + ")";
      due.is(call, x.changes(i, c, number), want[c]);
      int thing = c == 0 ? 0 : (c - 1) / 2;
      due.is(call + ", asked()", x.asked(), i == 3 && c != 0 ? (thing + 1) % 3 : thing);
    }
  }

  private static void changes(Due due) {
    FerryChange x = Due.ferry("p0000 b0000 l0000 w0000 s0000 c0000");
    changesAre(due, x, 0, 0, 0, 1, -1, 1, -1, 1, -1);
    changesAre(due, x, 1, 99, 0, 2, -2, 2, -2, 2, -2);
    changesAre(due, x, 2, 1, 0, -1, 1, -1, 1, -1, 1);
    changesAre(due, x, 3, 2, 0, 1, -1, 1, -1, 1, -1);
    changesAre(due, x, 4, 98, 0, 2, -2, 2, -2, 2, -2);
    changesAre(due, x, 4, 99, 0, 1, -1, 1, -1, 1, -1);
    changesAre(due, x, 5, 0, 0, -1, 1, -1, 1, -1, 1);
    x.changes(0, 5, 0);
    due.is("number 100", x.changes(0, 1, 100), -100);
    due.is("number -1", x.changes(0, 1, -1), -100);
    due.is("DECLARATION 7", x.changes(0, 7, 0), -100);
    due.is("DECLARATION -1", x.changes(0, -1, 0), -100);
    due.is("PASSENGER 6", x.changes(6, 1, 0), -100);
    due.is("PASSENGER -1", x.changes(-1, 1, 0), -100);
    due.is("asked stays", x.asked(), 2);
  }

  private static void run(Due due) {
    FerryChange x = Due.ferry("p5230 s0090 c0001");
    Due.row(x, 0, 1, 1, 4, 0, 5);
    due.is("a PASSENGER", x.run(0, 0), 4);
    due.is("its LIFE", x.asked(), 714);
    due.is("a SAILOR", x.run(1, 0), 2);
    due.is("its LIFE", x.asked(), 309);
    due.is("a CLERK", x.run(2, 0), 2);
    due.is("its LIFE", x.asked(), 10);
    x.cross(0, 0);
    due.is("a SAILOR from CROSSING 1 on", x.run(1, 0), 2);
    due.is("its LIFE", x.asked(), 309);
    Due.row(x, 0, 1);
    due.is("a SAILOR in CROSSING 1", x.run(1, 0), 1);
    due.is("its LIFE", x.asked(), 109);
    long before = x.digest();
    x.run(0, 0);
    due.is("it is aside", x.digest() == before ? 1 : 0, 1);
    x.row(1, 20);
    due.is("20 ints", x.run(2, 1), 20);
    x.row(1, 21);
    x.lay(1, 20, 7);
    due.finds(x, "21 ints, ahead of UNLIKE", x.run(0, 1), SIZE);
    x.row(1, 0);
    due.is("no ints", x.run(0, 1), 0);
    due.is("LIFE as it is", x.asked(), 523);
    Due.row(x, 1, 6, 6, 99);
    x.row(1, 1);
    Due.row(x, 1, 6, 6);
    due.is("6, and what was behind it is gone", x.run(0, 1), 2);
    due.is("its LIFE", x.asked(), 521);
    Due.row(x, 1, 6, 7);
    due.finds(x, "7", x.run(0, 1), UNLIKE);
    Due.row(x, 1, -1, 6);
    due.finds(x, "-1", x.run(0, 1), UNLIKE);
    due.finds(x, "no ROW", x.run(0, 2), NOTHING);
    due.is("PASSENGER 3", x.run(3, 2), -1);
    due.is("PASSENGER -1", x.run(-1, 2), -1);
    due.is("ROW 6", x.run(0, 6), -1);
    due.is("ROW -1", x.run(0, -1), -1);
  }

  private static void fewestIs(Due due, FerryChange x, int i, int[] wanted, int bank, int... path) {
    Due.row(x, 0, wanted);
    x.tear(3);
    due.is("fewest", x.fewest(i, 0, bank, 3), path.length);
    for (int k = 0; k < path.length; k++) {
      due.told(x, "fewest: step " + k, x.at(3, k), path[k]);
    }
    due.finds(x, "fewest: no more steps", x.at(3, path.length), 2);
  }

  private static void fewest(Due due) {
    FerryChange x = Due.ferry("p5230 b5230 l5230 w5230 s5230 c5230");
    int[] any = {-1, -1, -1};
    fewestIs(due, x, 0, any, -1);
    fewestIs(due, x, 0, any, 0);
    fewestIs(due, x, 0, any, 1, 1);
    fewestIs(due, x, 5, any, 1, 0);
    fewestIs(due, x, 0, new int[] {6, 3, -1}, -1, 1, 3);
    fewestIs(due, x, 0, new int[] {5, 2, 3}, 0);
    fewestIs(due, x, 0, new int[] {7, 3, 4}, -1, 1, 1, 3, 5);
    fewestIs(due, x, 1, new int[] {9, 4, 3}, 1, 1, 1, 3);
    fewestIs(due, x, 2, new int[] {6, 1, -1}, -1, 2, 3);
    fewestIs(due, x, 3, new int[] {6, 3, 3}, -1, 1, 5);
    fewestIs(due, x, 4, new int[] {6, -1, -1}, -1, 0, 1);
    fewestIs(due, x, 4, new int[] {8, -1, -1}, -1, 1, 1);
    fewestIs(due, x, 5, new int[] {5, 2, 3}, 1, 0);
    x.cross(0, 0);
    fewestIs(due, x, 4, new int[] {6, -1, -1}, -1, 1);
    Due.row(x, 0, 0, 0, 0);
    Due.row(x, 3, 42);
    due.is("by none", x.fewest(0, 0, -1, 3), -9);
    due.told(x, "the ROW stays", x.at(3, 0), 42);
    Due.row(x, 0, 6, 2, 3);
    due.is("into the same ROW", x.fewest(0, 0, 1, 0), 1);
    due.told(x, "it is anew", x.at(0, 0), 1);
    due.finds(x, "it has 1", x.at(0, 1), 2);
    FerryChange edge = Due.ferry("p9991");
    fewestIs(due, edge, 0, new int[] {9, 9, -1}, 0, 6);
    Due.row(edge, 0, 9, 9, 9);
    due.is("there is no odd way round", edge.fewest(0, 0, 0, 3), -9);
  }

  private static void fewestRefused(Due due) {
    FerryChange x = Due.ferry("p5230");
    x.row(0, 3);
    long before = x.digest();
    due.is("PASSENGER 1", x.fewest(1, 0, 0, 1), -1);
    due.is("PASSENGER -1", x.fewest(-1, 0, 0, 1), -1);
    due.is("ROW 6", x.fewest(0, 6, 0, 1), -1);
    due.is("ROW -1", x.fewest(0, -1, 0, 1), -1);
    due.is("BANK 2", x.fewest(0, 0, 2, 1), -1);
    due.is("BANK -2", x.fewest(0, 0, -2, 1), -1);
    due.is("to ROW 6", x.fewest(0, 0, 0, 6), -1);
    due.is("to ROW -1", x.fewest(0, 0, 0, -1), -1);
    due.finds(x, "no ROW", x.fewest(0, 2, 0, 1), NOTHING);
    due.is("nothing is changed", x.digest() == before ? 1 : 0, 1);
    Due.row(x, 0, 10, 0);
    due.finds(x, "2 ints", x.fewest(0, 0, 0, 1), SIZE);
    Due.row(x, 0, 1, 1, 1, 1);
    due.finds(x, "4 ints", x.fewest(0, 0, 0, 1), SIZE);
    Due.row(x, 0, 1, 1, 10);
    due.finds(x, "10", x.fewest(0, 0, 0, 1), UNLIKE);
    Due.row(x, 0, -2, 1, 1);
    due.finds(x, "-2", x.fewest(0, 0, 0, 1), UNLIKE);
  }

  private static void lives(Due due) {
    FerryChange x = Due.ferry("p5550 b5550 l0000 w5550 s5550 c9991");
    int[] ball = {1, 7, 25, 63, 129};
    for (int n = 0; n <= 4; n++) {
      due.parts(x, "a PASSENGER's", x.lives(0, n), ball[n], 1);
      due.parts(x, "a WIDOWER's", x.lives(3, n), ball[n], 1);
    }
    due.parts(x, "a BRIDE's, 0 to 9", x.lives(1, 3), 57, 1);
    due.parts(x, "a LIAR's in a corner", x.lives(2, 2), 10, 1);
    due.parts(x, "a CLERK's in a corner", x.lives(5, 2), 10, 1);
    due.parts(x, "a SAILOR's by 2", x.lives(4, 1), 7, 1);
    due.parts(x, "a SAILOR's by 2 and 1", x.lives(4, 2), 43, 1);
    due.is("n 5", x.lives(0, 5), -1);
    due.is("n -1", x.lives(0, -1), -1);
    due.is("PASSENGER 6", x.lives(6, 1), -1);
    due.is("PASSENGER -1", x.lives(-1, 1), -1);
    due.is("upper stays", x.upper(), 43);
  }
}
