/** Promises 14 to 18: cross, set, undo, keep, on. */
public final class DeedsTest {
  private static final int NOTHING = 1;

  public static void main(String[] args) {
    Due due = new Due();
    crossByKinds(due);
    cross(due);
    set(due);
    undo(due);
    keepAndOn(due);
    due.end();
  }

  /** What becomes of 555 on BANK 0 by DECLARATION 0 .. 6 in CROSSING 0, then in CROSSING 1. */
  private static void crossByKinds(Due due) {
    String letters = "pblwsc";
    int[][] even = {
      {5550, 6551, 4551, 5651, 5451, 5561, 5541},
      {5550, 7551, 3551, 5751, 5351, 5571, 5531},
      {5550, 4551, 6551, 5451, 5651, 5541, 5561},
      {5550, 5651, 5451, 5561, 5541, 6551, 4551},
      {5550, 7551, 3551, 5751, 5351, 5571, 5531},
      {5551, 4551, 6551, 5451, 5651, 5541, 5561}};
    for (int kind = 0; kind < 6; kind++) {
      for (int c = 0; c <= 6; c++) {
        for (int number = 0; number <= 1; number++) {
          FerryChange x = Due.ferry(letters.charAt(kind) + "5550p5550");
          if (number == 1) {
            x.cross(1, 0);
          }
          boolean lands = c != 0 || kind == 5;
          String call = letters.charAt(kind) + " by " + c + " in " + number;
          due.is(call, x.cross(0, c), lands ? 1 : 0);
          int want = kind == 4 && number == 1 ? even[0][c] : even[kind][c];
          due.is(call, Due.life(x, 0), want);
          due.is(call + ": the other", Due.life(x, 1), 5550);
          due.is(call + ": the next number", x.count(1), number + 1);
          due.is(call + ": deeds", x.count(2), number + 1);
        }
      }
    }
  }

  private static void cross(Due due) {
    FerryChange x = Due.ferry("b8101 l0990");
    due.is("8 and 2 can't be", x.cross(0, 1), 0);
    due.is("as it was", Due.life(x, 0), 8101);
    due.is("1 less 2 can't be", x.cross(0, 4), 0);
    due.is("a LIAR's 9 and 1 can't be", x.cross(1, 4), 0);
    due.is("a LIAR's 0 less 1 can't be", x.cross(1, 1), 0);
    due.is("0 and 2 can be", x.cross(0, 5), 1);
    due.is("as it is", Due.life(x, 0), 8120);
    due.is("numbers go on", x.count(1), 5);
    due.is("cross(2, 1)", x.cross(2, 1), -1);
    due.is("cross(-1, 1)", x.cross(-1, 1), -1);
    due.is("cross(0, 7)", x.cross(0, 7), -1);
    due.is("cross(0, -1)", x.cross(0, -1), -1);
    for (int k = 5; k < 40; k++) {
      due.is("deed " + k, x.cross(0, 0), 0);
    }
    due.is("40 DEEDS", x.count(2), 40);
    long before = x.digest();
    due.is("FULL", x.cross(0, 0), -2);
    due.is("BAD ahead of FULL", x.cross(0, 7), -1);
    due.is("nothing is changed", x.digest() == before ? 1 : 0, 1);
    due.is("no PASSENGERS", new FerryChange().cross(0, 0), -1);
  }

  private static void set(Due due) {
    FerryChange x = Due.ferry("p1230");
    due.is("set", x.set(0, 1, 9), 2);
    due.is("as it is", Due.life(x, 0), 1930);
    due.is("a DEED", x.count(2), 1);
    due.is("no CROSSING", x.count(1), 0);
    due.is("it is so", x.set(0, 1, 9), -4);
    due.is("no DEED", x.count(2), 1);
    due.is("THING 3", x.set(0, 3, 1), -1);
    due.is("THING -1", x.set(0, -1, 1), -1);
    due.is("10", x.set(0, 0, 10), -1);
    due.is("-1", x.set(0, 0, -1), -1);
    due.is("PASSENGER 1", x.set(1, 0, 1), -1);
    due.is("PASSENGER -1", x.set(-1, 0, 1), -1);
    for (int k = 1; k < 40; k++) {
      due.is("deed " + k, x.set(0, 2, k % 2 == 1 ? 0 : 9), k == 1 ? 3 : k % 2 == 1 ? 9 : 0);
    }
    due.is("FULL", x.set(0, 2, 5), -2);
    due.is("STATE ahead of FULL", x.set(0, 2, 0), -4);
    due.is("BAD ahead of FULL", x.set(0, 2, 10), -1);
  }

  private static void undo(Due due) {
    FerryChange x = Due.ferry("p1230 c4561");
    long atFirst = x.digest();
    x.cross(0, 1);
    x.set(0, 0, 7);
    x.cross(1, 0);
    long behindThree = x.digest();
    x.cross(1, 1);
    x.set(1, 2, 0);
    x.cross(0, 0);
    due.is("undo(7)", x.undo(7), -1);
    due.is("undo(-1)", x.undo(-1), -1);
    due.is("undo none", x.undo(6), 0);
    due.is("undo three", x.undo(3), 3);
    due.is("as it was", x.digest() == behindThree ? 1 : 0, 1);
    due.is("the next CROSSING", x.count(1), 2);
    due.is("undo(4) now", x.undo(4), -1);
    due.is("undo all", x.undo(0), 3);
    due.is("as at first", x.digest() == atFirst ? 1 : 0, 1);
    due.is("undo none of none", x.undo(0), 0);
    due.is("no ferry", new FerryChange().undo(0), 0);
    due.is("no ferry", new FerryChange().undo(1), -1);
  }

  private static void keepAndOn(Due due) {
    FerryChange none = new FerryChange();
    due.is("no PASSENGERS", none.keep(0), -4);
    due.is("BAD ahead of STATE", none.keep(3), -1);
    due.finds(none, "none kept", none.on(0), NOTHING);
    FerryChange x = Due.ferry("p1230 s4561");
    due.is("keep(3)", x.keep(3), -1);
    due.is("keep(-1)", x.keep(-1), -1);
    due.is("on(3)", x.on(3), -1);
    due.is("on(-1)", x.on(-1), -1);
    due.is("keep at first", x.keep(2), 0);
    x.cross(0, 1);
    x.set(1, 0, 0);
    due.is("keep", x.keep(0), 2);
    long kept = x.digest();
    x.undo(0);
    x.cross(1, 2);
    x.cross(1, 1);
    x.cross(1, 1);
    due.is("on", x.on(0), 2);
    due.is("as it was kept", x.digest() == kept ? 1 : 0, 1);
    due.is("its DEEDS are undone", x.undo(0), 2);
    due.is("life 0", Due.life(x, 0), 1230);
    due.is("life 1", Due.life(x, 1), 4561);
    due.is("still kept", x.on(0), 2);
    due.is("the other one", x.on(2), 0);
    due.finds(x, "place 1", x.on(1), NOTHING);
    due.is("two kept", x.count(9), 2);
    x.cross(0, 1);
    due.is("kept over", x.keep(0), 1);
    x.undo(0);
    due.is("gone on from", x.on(0), 1);
    due.is("the kept one is not the ferry itself", x.cross(0, 1), 1);
    due.is("gone on from again", x.on(0), 1);
    due.is("life 0", Due.life(x, 0), 2231);
  }
}
