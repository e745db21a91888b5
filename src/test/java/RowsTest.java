/** Promises 1 to 7: a new object, row, lay, at, tear, copy, mean. */
public final class RowsTest {
  private static final int NOTHING = 1, BEYOND = 2, NOUGHT = 4, SIZE = 5;

  public static void main(String[] args) {
    Due due = new Due();
    newObject(due);
    row(due);
    layAndAt(due);
    tear(due);
    copy(due);
    mean(due);
    due.end();
  }

  private static void newObject(Due due) {
    FerryChange x = new FerryChange();
    for (int what = 0; what <= 9; what++) {
      due.is("new: count " + what, x.count(what), 0);
    }
    for (int r = 0; r < 6; r++) {
      due.finds(x, "new: at", x.at(r, 0), NOTHING);
    }
    for (int t = 0; t < 4; t++) {
      due.finds(x, "new: fault", x.fault(t), NOTHING);
    }
    for (int k = 0; k < 3; k++) {
      due.finds(x, "new: on", x.on(k), NOTHING);
    }
    due.is("new: passenger", x.passenger(0, 0), -1);
    due.is("new: upper", x.upper(), 0);
    due.is("new: lower", x.lower(), 1);
    due.is("new: asked", x.asked(), 0);
  }

  private static void row(Due due) {
    FerryChange x = new FerryChange();
    due.is("row(0, 40)", x.row(0, 40), 40);
    due.told(x, "at(0, 39)", x.at(0, 39), 0);
    due.is("row(5, 0)", x.row(5, 0), 0);
    due.is("two rows", x.count(7), 2);
    due.is("row(0, 41)", x.row(0, 41), -1);
    due.is("row(-1, 1)", x.row(-1, 1), -1);
    due.is("row(6, 1)", x.row(6, 1), -1);
    due.is("row(6, -1): BAD is ahead", x.row(6, -1), -1);
    due.is("no finding", x.finding(), 0);
    due.finds(x, "row(0, -1)", x.row(0, -1), SIZE);
    due.finds(x, "row(1, MIN)", x.row(1, Integer.MIN_VALUE), SIZE);
    due.told(x, "still there", x.at(0, 39), 0);
    Due.row(x, 0, 7, 8, 9);
    due.is("anew", x.row(0, 2), 2);
    due.told(x, "anew is 0", x.at(0, 1), 0);
    due.finds(x, "anew is shorter", x.at(0, 2), BEYOND);
    due.is("longer again", x.row(0, 3), 3);
    due.told(x, "longer is 0", x.at(0, 2), 0);
  }

  private static void layAndAt(Due due) {
    FerryChange x = new FerryChange();
    x.row(2, 3);
    due.told(x, "lay", x.lay(2, 1, 77), 0);
    due.told(x, "lay again", x.lay(2, 1, Integer.MIN_VALUE), 77);
    due.told(x, "at", x.at(2, 1), Integer.MIN_VALUE);
    due.told(x, "at beside", x.at(2, 0), 0);
    due.finds(x, "lay(2, 3)", x.lay(2, 3, 1), BEYOND);
    due.finds(x, "lay(2, -1)", x.lay(2, -1, 1), BEYOND);
    due.finds(x, "at(2, 3)", x.at(2, 3), BEYOND);
    due.finds(x, "at(2, -1)", x.at(2, -1), BEYOND);
    due.finds(x, "at(2, MAX)", x.at(2, Integer.MAX_VALUE), BEYOND);
    due.finds(x, "lay(3, 0)", x.lay(3, 0, 1), NOTHING);
    due.finds(x, "at(3, -1): NOTHING is ahead", x.at(3, -1), NOTHING);
    due.is("lay(6)", x.lay(6, 0, 1), -1);
    due.is("lay(-1)", x.lay(-1, 0, 1), -1);
    due.is("at(6)", x.at(6, 0), -1);
    due.is("at(-1)", x.at(-1, 0), -1);
    due.is("asked stays", x.asked(), 0);
  }

  private static void tear(Due due) {
    FerryChange x = new FerryChange();
    Due.row(x, 4, 1, 2);
    due.is("tear", x.tear(4), 1);
    due.is("no row", x.count(7), 0);
    due.finds(x, "tear again", x.tear(4), NOTHING);
    due.finds(x, "at", x.at(4, 0), NOTHING);
    due.is("tear(6)", x.tear(6), -1);
    due.is("tear(-1)", x.tear(-1), -1);
    x.row(4, 0);
    due.is("tear of no ints", x.tear(4), 1);
  }

  private static void copy(Due due) {
    FerryChange x = new FerryChange();
    Due.row(x, 0, 1, 2, 3, 4, 5);
    Due.row(x, 1, 9, 9, 9);
    due.is("copy", x.copy(0, 2, 1, 0, 3), 1);
    rowIs(due, x, 1, 3, 4, 5);
    due.is("copy none", x.copy(0, 5, 1, 3, 0), 1);
    due.is("copy onto itself, up", x.copy(0, 0, 0, 1, 4), 1);
    rowIs(due, x, 0, 1, 1, 2, 3, 4);
    due.is("copy onto itself, down", x.copy(0, 2, 0, 0, 3), 1);
    rowIs(due, x, 0, 2, 3, 4, 3, 4);
    due.finds(x, "n below 0", x.copy(0, 0, 1, 0, -1), SIZE);
    due.finds(x, "n below 0 ahead of NOTHING", x.copy(2, 0, 3, 0, -1), SIZE);
    due.finds(x, "from is missing", x.copy(2, 0, 1, 0, 1), NOTHING);
    due.finds(x, "to is missing", x.copy(0, 0, 2, 0, 1), NOTHING);
    due.finds(x, "missing ahead of BEYOND", x.copy(0, 99, 2, 0, 1), NOTHING);
    due.finds(x, "not so many there", x.copy(0, 3, 1, 0, 3), BEYOND);
    due.finds(x, "not so many there to come to", x.copy(0, 0, 1, 1, 3), BEYOND);
    due.finds(x, "from below 0", x.copy(0, -1, 1, 0, 1), BEYOND);
    due.finds(x, "to below 0", x.copy(0, 0, 1, -1, 1), BEYOND);
    due.finds(x, "none, beyond", x.copy(0, 6, 1, 0, 0), BEYOND);
    due.finds(x, "so many that it would wrap", x.copy(0, 1, 1, 1, Integer.MAX_VALUE), BEYOND);
    due.finds(x, "so far that it would wrap", x.copy(0, Integer.MAX_VALUE, 1, 0, 1), BEYOND);
    due.is("from no row", x.copy(6, 0, 0, 0, -1), -1);
    due.is("to no row", x.copy(0, 0, -1, 0, -1), -1);
    rowIs(due, x, 0, 2, 3, 4, 3, 4);
    rowIs(due, x, 1, 3, 4, 5);
  }

  private static void rowIs(Due due, FerryChange x, int r, int... values) {
    for (int k = 0; k < values.length; k++) {
      due.told(x, "row " + r + " at " + k, x.at(r, k), values[k]);
    }
  }

  private static void mean(Due due) {
    FerryChange x = new FerryChange();
    Due.row(x, 0, 1, 2, 4);
    due.told(x, "mean", x.mean(0), 2);
    Due.row(x, 0, -1, -2, -4);
    due.told(x, "mean below 0 is cut towards 0", x.mean(0), -2);
    Due.row(x, 0, Integer.MAX_VALUE, Integer.MAX_VALUE, Integer.MAX_VALUE);
    due.told(x, "mean of great ints", x.mean(0), Integer.MAX_VALUE);
    Due.row(x, 0, Integer.MIN_VALUE, Integer.MIN_VALUE);
    due.told(x, "mean of least ints", x.mean(0), Integer.MIN_VALUE);
    x.row(0, 0);
    due.finds(x, "mean of none", x.mean(0), NOUGHT);
    due.finds(x, "mean of nothing", x.mean(1), NOTHING);
    due.is("mean(6)", x.mean(6), -1);
    due.is("mean(-1)", x.mean(-1), -1);
    due.is("asked stays", x.asked(), Integer.MIN_VALUE);
  }
}
