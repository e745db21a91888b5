/** Promises 8 to 11: text, put, fault, ferry. */
public final class TextsTest {
  private static final int NOTHING = 1, BEYOND = 2, SIZE = 5;

  public static void main(String[] args) {
    Due due = new Due();
    text(due);
    put(due);
    fault(due);
    ferry(due);
    due.end();
  }

  private static void text(Due due) {
    FerryChange x = new FerryChange();
    due.is("text(3, 60)", x.text(3, 60), 60);
    due.is("text(0, 0)", x.text(0, 0), 0);
    due.is("two texts", x.count(8), 2);
    due.is("text(0, 61)", x.text(0, 61), -1);
    due.is("text(4, 1)", x.text(4, 1), -1);
    due.is("text(-1, 1)", x.text(-1, 1), -1);
    due.is("text(4, -1): BAD is ahead", x.text(4, -1), -1);
    due.finds(x, "text(0, -1)", x.text(0, -1), SIZE);
    due.is("blanks", x.put(3, 59, 'p'), 1032);
    due.is("anew", x.text(3, 60), 60);
    due.is("blanks again", x.put(3, 59, 'p'), 1032);
  }

  private static void put(Due due) {
    FerryChange x = new FerryChange();
    x.text(1, 2);
    due.is("put", x.put(1, 1, 255), 1032);
    due.is("cut to a byte: -1", x.put(1, 1, 128), 999);
    due.is("cut to a byte: -128", x.put(1, 1, 256 + 65), 872);
    due.is("cut to a byte: 65", x.put(1, 1, 127), 1065);
    due.is("127", x.put(1, 1, 0), 1127);
    due.is("0", x.put(1, 1, -32), 1000);
    due.is("-32", x.put(1, 1, 0), 968);
    due.finds(x, "put(1, 2)", x.put(1, 2, 0), BEYOND);
    due.finds(x, "put(1, -1)", x.put(1, -1, 0), BEYOND);
    due.finds(x, "put(0, 0)", x.put(0, 0, 0), NOTHING);
    due.is("put(4)", x.put(4, 0, 0), -1);
    due.is("put(-1)", x.put(-1, 0, 0), -1);
    due.is("asked stays", x.asked(), 0);
  }

  private static void faultIs(Due due, String signs, int want) {
    FerryChange x = new FerryChange();
    Due.text(x, 2, signs);
    due.is("fault of '" + signs + "'", x.fault(2), want);
    due.is("ferry of '" + signs + "' is STATE", x.ferry(2) == -4 ? 1 : 0, want == -9 ? 0 : 1);
  }

  private static void fault(Due due) {
    faultIs(due, "p0000", -9);
    faultIs(due, "b9991", -9);
    faultIs(due, "  p0000  c1231 ", -9);
    faultIs(due, "p0000b0000l0000w0000s0000c0000", -9);
    faultIs(due, "p0000b0000l0000w0000s0000c0000  ", -9);
    faultIs(due, " p0000 b0000 l0000 w0000 s0000 c0000 p", 37);
    faultIs(due, "p0000b0000l0000w0000s0000c0000p0000", 30);
    faultIs(due, "p0000b0000l0000w0000s0000c0000 x", 31);
    faultIs(due, "", 0);
    faultIs(due, "    ", 4);
    faultIs(due, "p", 1);
    faultIs(due, "p000", 4);
    faultIs(due, "  p000", 6);
    faultIs(due, "p0000 b000", 10);
    faultIs(due, "p0000 b", 7);
    faultIs(due, "p000 ", 4);
    faultIs(due, "p 0000", 1);
    faultIs(due, "p0 000", 2);
    faultIs(due, "p0002", 4);
    faultIs(due, "p0009", 4);
    faultIs(due, "p000/", 4);
    faultIs(due, "p:000", 1);
    faultIs(due, "p/000", 1);
    faultIs(due, "p00:0", 3);
    faultIs(due, "P0000", 0);
    faultIs(due, "a0000", 0);
    faultIs(due, "0p000", 0);
    faultIs(due, "p00000", 5);
    faultIs(due, "p0000 bb", 7);
    faultIs(due, "\tp0000", 0);
    faultIs(due, "\u00a0p0000", 0);
    FerryChange x = new FerryChange();
    due.finds(x, "fault of nothing", x.fault(0), NOTHING);
    due.is("fault(4)", x.fault(4), -1);
    due.is("fault(-1)", x.fault(-1), -1);
  }

  private static void ferry(Due due) {
    FerryChange x = new FerryChange();
    due.finds(x, "ferry of nothing", x.ferry(0), NOTHING);
    due.is("ferry(4)", x.ferry(4), -1);
    due.is("ferry(-1)", x.ferry(-1), -1);
    Due.text(x, 0, " p1230 b4561 l7890w0121  s3450c6781 ");
    due.is("ferry", x.ferry(0), 6);
    int[] lives = {1230, 4561, 7890, 121, 3450, 6781};
    for (int i = 0; i < 6; i++) {
      due.told(x, "kind " + i, x.passenger(i, 0), i);
      due.is("life " + i, Due.life(x, i), lives[i]);
    }
    x.cross(0, 1);
    x.keep(0);
    x.keep(2);
    Due.text(x, 1, "p000");
    long before = x.digest();
    due.is("a FAULT", x.ferry(1), -4);
    due.is("nothing is changed", x.digest() == before ? 1 : 0, 1);
    Due.text(x, 1, "w9080");
    due.is("anew", x.ferry(1), 1);
    due.is("CROSSING 0", x.count(1), 0);
    due.is("no DEEDS", x.count(2), 0);
    due.is("none is kept", x.count(9), 0);
    due.finds(x, "none is kept", x.on(0), NOTHING);
    due.told(x, "a WIDOWER", x.passenger(0, 0), 3);
    due.is("one alone", x.passenger(1, 0), -1);
  }
}
