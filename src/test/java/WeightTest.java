/** Promises 26 to 28: boats, sets, sure. */
public final class WeightTest {
  private static final int NOUGHT = 4;

  public static void main(String[] args) {
    Due due = new Due();
    boats(due);
    sets(due);
    sure(due);
    refused(due);
    due.end();
  }

  private static void boatsAre(Due due, FerryChange x, int load, int want, int first) {
    due.is("boats(" + load + ")", x.boats(load), want);
    due.is("boats(" + load + "), asked()", x.asked(), first);
  }

  private static void boats(Due due) {
    // WEIGHTS 3, 4 (a BRIDE's), 5, 6, 2 (a SAILOR's), 0
    FerryChange x = Due.ferry("p1110 b1110 l1220 w2220 s0100 c0001");
    boatsAre(due, x, 6, 4, 1);
    boatsAre(due, x, 7, 3, 3);
    boatsAre(due, x, 10, 2, 7 - 2 + 16);
    boatsAre(due, x, 19, 2, 1);
    boatsAre(due, x, 20, 1, 63);
    boatsAre(due, x, 99, 1, 63);
    x.at(0, 0);
    due.is("one is too heavy", x.boats(5), -9);
    due.is("asked stays", x.asked(), 63);
    due.is("none bears anything", x.boats(0), -9);
    FerryChange light = Due.ferry("p0000 l0000 c0000");
    boatsAre(due, light, 0, 1, 7);
    FerryChange heavy = Due.ferry("b9990 s9990 p9990");
    due.is("28 is too heavy", heavy.boats(27), -9);
    boatsAre(due, heavy, 28, 3, 1);
    boatsAre(due, heavy, 55, 2, 1);
    boatsAre(due, heavy, 83, 1, 7);
    FerryChange alone = Due.ferry("b1230");
    boatsAre(due, alone, 7, 1, 1);
    due.is("a BRIDE is 1 heavier", alone.boats(6), -9);
    FerryChange first = Due.ferry("p9990 p1000");
    due.is("the first one is too heavy", first.boats(26), -9);
    FerryChange late = Due.ferry("p2000 p8000 p9000 p1000");
    boatsAre(due, late, 10, 2, 3);
  }

  private static void setsAre(Due due, FerryChange x, int v, int many, int first) {
    due.parts(x, "sets(" + v + ")", x.sets(v), many, 1);
    due.is("sets(" + v + "), asked()", x.asked(), first);
  }

  private static void sets(Due due) {
    FerryChange x = Due.ferry("p1110 b1110 l1220 w2220 s0100 c0001");
    setsAre(due, x, 0, 2, 0);
    setsAre(due, x, 2, 2, 16);
    setsAre(due, x, 1, 0, -9);
    setsAre(due, x, 5, 4, 4);
    setsAre(due, x, 20, 2, 31);
    setsAre(due, x, 21, 0, -9);
    setsAre(due, x, 180, 0, -9);
    FerryChange light = Due.ferry("p0000 l0000 c0000 w0000 p0000 p0000");
    setsAre(due, light, 0, 64, 0);
  }

  private static void sure(Due due) {
    FerryChange x = Due.ferry("p1110 b1110 l1220 w2220 s0100 c0001");
    due.is("sure(0)", x.sure(0), 0);
    due.is("sure(0), asked()", x.asked(), 31);
    due.is("sure(5)", x.sure(5), 0);
    due.is("sure(5), asked()", x.asked(), 2 + 8);
    due.is("sure(17)", x.sure(17), 2 + 4 + 8 + 16);
    due.is("sure(17), asked()", x.asked(), 1);
    due.is("sure(20)", x.sure(20), 31);
    due.is("sure(20), asked()", x.asked(), 0);
    x.row(0, 1);
    x.at(0, 0);
    due.finds(x, "sure(1)", x.sure(1), NOUGHT);
    due.finds(x, "sure(180)", x.sure(180), NOUGHT);
  }

  private static void refused(Due due) {
    FerryChange none = new FerryChange();
    due.is("boats", none.boats(1), -4);
    due.is("sets", none.sets(1), -4);
    due.is("sure", none.sure(1), -4);
    due.is("boats, BAD ahead", none.boats(100), -1);
    due.is("sets, BAD ahead", none.sets(181), -1);
    due.is("sure, BAD ahead", none.sure(181), -1);
    FerryChange x = Due.ferry("p1110");
    due.is("boats(-1)", x.boats(-1), -1);
    due.is("boats(100)", x.boats(100), -1);
    due.is("sets(-1)", x.sets(-1), -1);
    due.is("sets(181)", x.sets(181), -1);
    due.is("sure(-1)", x.sure(-1), -1);
    due.is("sure(181)", x.sure(181), -1);
    due.is("no finding", x.finding(), 0);
    due.is("upper stays", x.upper(), 0);
  }
}
