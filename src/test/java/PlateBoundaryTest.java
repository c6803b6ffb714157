import java.util.List;
import java.util.function.Consumer;

/**
 * The plate, sentence by sentence: what the Terms and the promises 1 to 20 and 34 to 35 say of too small, too
 * large, empty, full and wrapped around. What a refused call leaves as it was is in RefusalTest.
 */
public final class PlateBoundaryTest {
  private static final int BAD = Check.BAD, STATE = Check.STATE, NONE = Check.NONE, NULL = Check.NULL;
  private static final int BAD_AMONG_NUMBERS = Check.BAD_AMONG_NUMBERS, LOW = Check.LOW, HIGH = Check.HIGH;
  private static final int[][] SIZES = Check.SIZES;

  public static void main(String[] args) {
    sizes();
    atFirst();
    kindsOverOneAnother();
    joints();
    unmet();
    fields();
    troubledFields();
    arrangements();
    newPlate();
    kind();
    tell();
    let();
    turn();
    gauge();
    want();
    arrange();
    one();
    undo();
    undoOfTwenty();
    point();
    worth();
    needle();
    joint();
    strain();
    troubled();
    apart();
    paired();
    of();
    about();
    trace();
    calls();
    Check.end();
  }

  private static void says(String where, String words) { Check.says(where, words); }
  private static void due(String call, long got, long want) { Check.due(call, got, want); }

  private static NeedlePlate sized(int rows, int columns) {
    NeedlePlate x = new NeedlePlate();
    due("plate(" + rows + ", " + columns + ")", x.plate(rows, columns), rows * (columns - 1) + (rows - 1) * columns);
    return x;
  }

  /** One row of two with one joint, its want and how both point. */
  private static NeedlePlate pair(int want, int first, int second) {
    NeedlePlate x = sized(1, 2);
    x.want(0, want);
    x.arrange(2 * first + second);
    return x;
  }

  /** One row of three: 0 and 1 want to agree by 5, 1 and 2 to differ by 3. */
  private static NeedlePlate line() {
    NeedlePlate x = sized(1, 3);
    x.want(0, 5);
    x.want(1, -3);
    return x;
  }

  // ---- the Terms

  private static void sizes() {
    says("What it is, and on in Terms", "ROWS and COLUMNS (1 .. 6 each, 12 NEEDLES at most");
    for (int rows = -2; rows <= 14; rows++) {
      NeedlePlate x = new NeedlePlate();
      for (int columns = -2; columns <= 14; columns++) {
        boolean fits = rows >= 1 && rows <= 6 && columns >= 1 && columns <= 6 && rows * columns <= 12;
        int joints = rows * (columns - 1) + (rows - 1) * columns;
        due("plate(" + rows + ", " + columns + ")", x.plate(rows, columns), fits ? joints : BAD);
      }
    }
    NeedlePlate x = new NeedlePlate();
    Check.range("plate(_, 1)", v -> x.plate(v, 1), 1, 6, BAD);
    Check.range("plate(1, _)", v -> x.plate(1, v), 1, 6, BAD);
    Check.range("plate(4, _)", v -> x.plate(4, v), 1, 3, BAD);
    Check.range("plate(_, 2)", v -> x.plate(v, 2), 1, 6, BAD);
    // products that come back to 0, to 12 and to 1
    due("plate(65536, 65536)", x.plate(65536, 65536), BAD);
    due("plate(-3, -4)", x.plate(-3, -4), BAD);
    due("plate(-1, -1)", x.plate(-1, -1), BAD);
    due("plate(LOW, LOW)", x.plate(LOW, LOW), BAD);
    due("plate(HIGH, HIGH)", x.plate(HIGH, HIGH), BAD);
    due("plate(715827883, 6)", x.plate(715827883, 6), BAD);
  }

  private static void atFirst() {
    says("promise 1", "A PLATE of 3 and 3.");
    NeedlePlate x = new NeedlePlate();
    int[] told = {3, 3, 9, 12, 5, 0, 0, 0};
    for (int what = 0; what < told.length; what++) due("about(" + what + ")", x.about(what), told[what]);
    says("Terms", "Each has a TURN and a TOLD, 0 (up) or 1 (down), 0 at first, and a KIND, 0 at first");
    for (int i = 0; i < 9; i++) {
      for (int what = 0; what < 5; what++) due("needle(" + i + ", " + what + ")", x.needle(i, what), 0);
      due("point(" + i + ")", x.point(i), 0);
    }
    says("Terms", "Each has a WANT, -1000 .. 1000, 0 at first");
    for (int j = 0; j < 12; j++) due("joint(" + j + ", 4)", x.joint(j, 4), 1000);
    NeedlePlate y = new NeedlePlate();
    says("promise 35", "THE TRACE.");
    due("trace() at first", y.trace(), 0);
    says("promise 36", "What the latest strip(), row(), put(), item(), copy(), read() was refused by; 0.");
    due("status() at first", y.status(), 0);
    says("promise 11", "STATE: there is none.");
    due("undo() at first", y.undo(), STATE);
    says("Terms", "NULL (no STRIP, a ROW that is MISSING)");
    for (int s = 0; s < 4; s++) due("row(" + s + ", 0, 1) at first", y.row(s, 0, 1), NULL);
    due("least()", y.least(), 0);
    due("many()", y.many(), 512);
    due("best(511)", y.best(511), 511);
    due("best(512)", y.best(512), NONE);
  }

  private static void kindsOverOneAnother() {
    NeedlePlate x = new NeedlePlate();
    x.turn(0);
    says("Terms", "what a KIND has not, it has as the one over it");
    x.kind(0, 2);
    due("point(0), DOUBLE", x.point(0), 1);
    x.kind(0, 3);
    due("point(0), FREE", x.point(0), 1);
    x.kind(0, 1);
    due("worth(0), HELD", x.worth(0), 1);
    x.kind(0, 4);
    due("worth(0), EDGE", x.worth(0), 1);
    says("Terms", "POINTS: NEEDLE its TURN (1); HELD its TOLD (10); EDGE, when it is LET GO, up two, else up (100).");
    due("point(0), EDGE that is not LET GO", x.point(0), 0);
    x.let(0, true);
    due("point(0), EDGE that is LET GO", x.point(0), 1);
    x.tell(0, 1);
    x.turn(0);
    due("point(0), EDGE that is LET GO", x.point(0), 0);
    due("worth(0), EDGE that is LET GO", x.worth(0), 1);
    x.kind(0, 1);
    due("point(0), HELD", x.point(0), 1);
    x.kind(0, 0);
    due("point(0), NEEDLE", x.point(0), 0);
    says("Terms", "WORTH: NEEDLE 1 (1000); DOUBLE up and up again (10000); FREE 0 (100000).");
    int[] worths = {1, 1, 2, 0, 1};
    for (int kind = 0; kind < 5; kind++) {
      x.kind(0, kind);
      due("worth(0) of KIND " + kind, x.worth(0), worths[kind]);
    }
  }

  private static void joints() {
    says("Terms", "first those of a NEEDLE and the one right of it, by rows, then those of a NEEDLE and the one below it, by rows");
    for (int[] size : SIZES) {
      NeedlePlate x = sized(size[0], size[1]);
      int joint = 0;
      for (int i = 0; i < size[0] * size[1]; i++) {
        if (i % size[1] < size[1] - 1) endsAre(x, joint++, i, i + 1);
      }
      for (int i = 0; i < (size[0] - 1) * size[1]; i++) endsAre(x, joint++, i, i + size[1]);
      due("about(3)", x.about(3), joint);
      due("joint(" + joint + ", 0)", x.joint(joint, 0), BAD);
    }
    says("Terms", "it COUNTS as much as its WANT by the WORTHS of both");
    int[] worths = {1, 1, 2, 0, 1};
    for (int first = 0; first < 5; first++) {
      NeedlePlate x = pair(-1000, 0, 0);
      x.kind(0, first);
      for (int second = 0; second < 5; second++) {
        x.kind(1, second);
        due("joint(0, 6) of KINDS " + first + " " + second, x.joint(0, 6), 1000 * worths[first] * worths[second]);
      }
    }
  }

  private static void endsAre(NeedlePlate x, int joint, int first, int second) {
    due("joint(" + joint + ", 0)", x.joint(joint, 0), first);
    due("joint(" + joint + ", 1)", x.joint(joint, 1), second);
  }

  private static void unmet() {
    says("Terms", "One that COUNTS more than 0 is UNMET, if its two POINT differently, one that COUNTS less, if alike");
    for (int first = 0; first < 2; first++) {
      for (int second = 0; second < 2; second++) {
        unmetIs(pair(1, first, second), first == second ? 0 : 1, 1);
        unmetIs(pair(-1, first, second), first == second ? 1 : 0, 1);
        unmetIs(pair(0, first, second), 0, 0);
        NeedlePlate x = pair(1, first, second);
        x.kind(0, 3);
        unmetIs(x, 0, 0);
        x.want(0, -1);
        unmetIs(x, 0, 0);
      }
    }
  }

  private static void unmetIs(NeedlePlate x, int unmet, int amount) {
    String points = " at " + x.joint(0, 4) + ", " + x.needle(0, 0) + x.needle(1, 0);
    due("joint(0, 5)" + points, x.joint(0, 5), unmet);
    due("joint(0, 6)" + points, x.joint(0, 6), amount);
    due("strain()" + points, x.strain(), unmet * amount);
  }

  private static void fields() {
    says("Terms", "those between four NEEDLES, by rows from 0 on; behind these the one outside of all, the last one");
    for (int[] size : SIZES) {
      NeedlePlate x = sized(size[0], size[1]);
      due("about(4)", x.about(4), (size[0] - 1) * (size[1] - 1) + 1);
    }
    NeedlePlate x = sized(3, 3);
    int[][] sides = {
      {0, 4}, {1, 4}, {0, 2}, {1, 3}, {2, 4}, {3, 4},
      {0, 4}, {0, 1}, {1, 4}, {2, 4}, {2, 3}, {3, 4},
    };
    for (int j = 0; j < sides.length; j++) sidesAre(x, j, sides[j][0], sides[j][1]);
    says("Terms", "A JOINT has a FIELD on both sides (outside twice, where there is but one row or column).");
    for (int n = 2; n <= 6; n++) {
      NeedlePlate row = sized(1, n);
      NeedlePlate column = sized(n, 1);
      for (int j = 0; j < n - 1; j++) {
        sidesAre(row, j, 0, 0);
        sidesAre(column, j, 0, 0);
      }
    }
    NeedlePlate thin = sized(2, 6);
    for (int c = 0; c < 5; c++) {
      sidesAre(thin, c, c, 5);
      sidesAre(thin, 5 + c, c, 5);
    }
    sidesAre(thin, 10, 0, 5);
    sidesAre(thin, 15, 4, 5);
  }

  private static void sidesAre(NeedlePlate x, int joint, int lesser, int greater) {
    due("joint(" + joint + ", 2)", x.joint(joint, 2), lesser);
    due("joint(" + joint + ", 3)", x.joint(joint, 3), greater);
  }

  private static void troubledFields() {
    says("Terms", "an odd number COUNTS less than 0");
    for (int signs = 0; signs < 16; signs++) {
      NeedlePlate x = sized(2, 2);
      for (int j = 0; j < 4; j++) x.want(j, (signs >> j & 1) == 1 ? -1 : 1);
      due("troubled(0) at " + signs, x.troubled(0), Integer.bitCount(signs) % 2);
      due("troubled(1) at " + signs, x.troubled(1), Integer.bitCount(signs) % 2);
    }
    NeedlePlate x = sized(2, 2);
    x.want(0, -1);
    due("troubled(0)", x.troubled(0), 1);
    x.kind(0, 3);
    due("troubled(0), FREE", x.troubled(0), 0);
    x.kind(0, 0);
    x.want(0, 0);
    due("troubled(0), a WANT of 0", x.troubled(0), 0);
    says("Terms", "(one that has it on both sides twice)");
    for (int n = 2; n <= 6; n++) {
      NeedlePlate row = sized(1, n);
      NeedlePlate column = sized(n, 1);
      for (int j = 0; j < n - 1; j++) {
        row.want(j, -7);
        column.want(j, -7);
        due("troubled(0) of one row", row.troubled(0), 0);
        due("troubled(0) of one column", column.troubled(0), 0);
      }
    }
    says("Terms", "there is always an even number");
    for (int signs = 0; signs < 128; signs++) {
      NeedlePlate y = sized(3, 2);
      for (int j = 0; j < 7; j++) y.want(j, (signs >> j & 1) == 1 ? -1 : 1);
      due("about(6) at " + signs + ", odd or even", y.about(6) % 2, 0);
    }
  }

  private static void arrangements() {
    says("Terms", "with N NEEDLES bit N - 1 - i is how NEEDLE i POINTS (so NEEDLE 0 has the highest)");
    for (int[] size : SIZES) {
      NeedlePlate x = sized(size[0], size[1]);
      int n = size[0] * size[1];
      for (int i = 0; i < n; i++) {
        x.arrange(1 << (n - 1 - i));
        for (int k = 0; k < n; k++) due("point(" + k + ") of bit " + i, x.point(k), k == i ? 1 : 0);
      }
    }
    says("Terms", "Those that MAY BE are all in which each that is HELD (HELD, or EDGE that is not LET GO) POINTS as it does.");
    for (int[] size : SIZES) {
      NeedlePlate x = sized(size[0], size[1]);
      int n = size[0] * size[1];
      due("many(), none HELD", x.many(), 1 << n);
      due("best() of the last one", x.best((1 << n) - 1), (1 << n) - 1);
      due("best() behind it", x.best(1 << n), NONE);
      for (int i = 0; i < n; i++) {
        x.kind(i, 1);
        x.tell(i, i % 2);
        due("many(), HELD up to " + i, x.many(), 1 << (n - 1 - i));
      }
      due("best(0), all HELD", x.best(0), 0b010101010101 >> (12 - n));
      due("best(1), all HELD", x.best(1), NONE);
    }
    NeedlePlate x = sized(1, 2);
    x.kind(1, 4);
    x.tell(1, 1);
    due("best(0), EDGE", x.best(0), 1);
    due("best(1), EDGE", x.best(1), 3);
    due("best(2), EDGE", x.best(2), NONE);
    x.let(1, true);
    due("many(), LET GO", x.many(), 4);
    due("best(0), LET GO", x.best(0), 0);
  }

  // ---- the plate

  private static void newPlate() {
    says("promise 2", "A new PLATE, all as at first (STRIPS, THE TRACE stay, nothing can be undone): how many JOINTS.");
    NeedlePlate x = sized(3, 4);
    x.strip(0, 2, 1);
    x.row(0, 0, 12);
    for (int k = 0; k < 12; k++) x.put(0, 2, 0, k, -k - 1);
    x.read(0, 0, 0, 12);
    x.read(0, 0, 5, 12);
    for (int i = 0; i < 12; i++) {
      x.kind(i, i == 5 || i == 6 ? 2 : 4);
      x.tell(i, 1);
      x.turn(i);
      x.let(i, true);
    }
    x.point(0);
    x.put(0, 0, 0, 0, 1);
    due("about(7)", x.about(7), 20);
    due("plate(1, 1)", x.plate(1, 1), 0);
    due("about(7)", x.about(7), 0);
    due("undo()", x.undo(), STATE);
    due("plate(3, 4)", x.plate(3, 4), 17);
    for (int i = 0; i < 12; i++) {
      for (int what = 0; what < 5; what++) due("needle(" + i + ", " + what + ")", x.needle(i, what), 0);
    }
    for (int j = 0; j < 17; j++) due("joint(" + j + ", 4)", x.joint(j, 4), 1000);
    due("undo()", x.undo(), STATE);
    due("trace()", x.trace(), 101);
    due("status()", x.status(), Check.CAST);
    for (int k = 0; k < 12; k++) due("item(0, 2, 0, " + k + ")", x.item(0, 2, 0, k), -k - 1);
    says("promise 2", "how many JOINTS");
    due("many() of the new one", x.many(), 4096);
    x.want(0, 1);
    due("plate(3, 4), of the same size", x.plate(3, 4), 17);
    due("joint(0, 4)", x.joint(0, 4), 1000);
    due("many() of the new one", x.many(), 4096);
    due("undo()", x.undo(), STATE);
  }

  private static void kind() {
    says("promise 3", "A NEEDLE becomes one of a KIND (not LET GO): the KIND that it was. BAD");
    for (int[] size : SIZES) {
      NeedlePlate x = sized(size[0], size[1]);
      Check.range("kind(_, 1)", v -> x.kind(v, 1), 0, size[0] * size[1] - 1, BAD);
      Check.range("kind(0, _)", v -> x.kind(0, v), 0, 4, BAD);
    }
    NeedlePlate x = new NeedlePlate();
    int[] kinds = {4, 3, 2, 1, 0, 0};
    int was = 0;
    for (int kind : kinds) {
      due("kind(0, " + kind + ")", x.kind(0, kind), was);
      was = kind;
    }
    due("about(7), the same KIND too", x.about(7), 6);
    says("promise 3", "(not LET GO)");
    for (int kind = 0; kind < 5; kind++) {
      x.kind(8, 4);
      x.let(8, true);
      due("kind(8, " + kind + ")", x.kind(8, kind), 4);
      due("needle(8, 3)", x.needle(8, 3), 0);
      due("kind(8, 4)", x.kind(8, 4), kind);
      due("needle(8, 3)", x.needle(8, 3), 0);
      due("needle(8, 4)", x.needle(8, 4), 1);
    }
    says("promise 3", "BAD: also an EDGE that is in no first, last row, column.");
    for (int[] size : SIZES) {
      NeedlePlate y = sized(size[0], size[1]);
      for (int i = 0; i < size[0] * size[1]; i++) {
        int r = i / size[1], c = i % size[1];
        boolean inside = r > 0 && r < size[0] - 1 && c > 0 && c < size[1] - 1;
        due("kind(" + i + ", 4)", y.kind(i, 4), inside ? BAD : 0);
        due("needle(" + i + ", 2)", y.needle(i, 2), inside ? 0 : 4);
        for (int kind = 3; kind >= 0; kind--) due("kind(" + i + ", " + kind + ")", y.kind(i, kind), kind < 3 ? kind + 1 : inside ? 0 : 4);
      }
    }
  }

  private static void tell() {
    says("promise 4", "TOLD of a NEEDLE becomes v (0, 1): what it was. BAD.");
    for (int[] size : SIZES) {
      NeedlePlate x = sized(size[0], size[1]);
      Check.range("tell(_, 1)", v -> x.tell(v, 1), 0, size[0] * size[1] - 1, BAD);
      Check.range("tell(0, _)", v -> x.tell(0, v), 0, 1, BAD);
    }
    NeedlePlate x = new NeedlePlate();
    for (int kind = 0; kind < 5; kind++) {
      x.kind(8, kind);
      due("tell(8, 1) of KIND " + kind, x.tell(8, 1), 0);
      due("tell(8, 1) again", x.tell(8, 1), 1);
      due("needle(8, 1)", x.needle(8, 1), 1);
      due("tell(8, 0)", x.tell(8, 0), 1);
      due("tell(8, 0) again", x.tell(8, 0), 0);
    }
    due("about(7), the same TOLD too", x.about(7), 20);
    due("needle(7, 1), another one", x.needle(7, 1), 0);
  }

  private static void let() {
    says("promise 5", "An EDGE is LET GO, or not: what it was (1, 0). BAD");
    for (int[] size : SIZES) {
      NeedlePlate x = sized(size[0], size[1]);
      int last = size[0] * size[1] - 1;
      x.kind(0, 4);
      x.kind(last, 4);
      Check.range("let(_, true)", v -> x.let(v, true), 0, last, BAD);
      Check.range("let(_, false)", v -> x.let(v, false), 0, last, BAD);
    }
    NeedlePlate x = new NeedlePlate();
    x.kind(0, 4);
    due("let(0, false)", x.let(0, false), 0);
    due("let(0, true)", x.let(0, true), 0);
    due("let(0, true)", x.let(0, true), 1);
    due("let(0, false)", x.let(0, false), 1);
    due("let(0, false)", x.let(0, false), 0);
    due("about(7), what it was too", x.about(7), 6);
    says("promise 5", "BAD: no EDGE, too.");
    for (int kind = 0; kind < 4; kind++) {
      x.kind(0, kind);
      due("let(0, true) of KIND " + kind, x.let(0, true), BAD);
      due("let(0, false) of KIND " + kind, x.let(0, false), BAD);
      due("needle(0, 3) of KIND " + kind, x.needle(0, 3), 0);
    }
  }

  private static void turn() {
    says("promise 6", "-1000000: BAD.");
    for (int[] size : SIZES) {
      NeedlePlate x = sized(size[0], size[1]);
      Check.range("turn(_)", x::turn, 0, size[0] * size[1] - 1, BAD_AMONG_NUMBERS);
    }
    says("promise 6", "TURN of a NEEDLE becomes the other one: by how much THE STRAIN is more.");
    NeedlePlate x = pair(1, 0, 1);
    due("turn(1), -1 is no refusal", x.turn(1), -1);
    due("turn(1)", x.turn(1), 1);
    due("needle(1, 0)", x.needle(1, 0), 1);
    x.want(0, 0);
    due("turn(1), nothing more", x.turn(1), 0);
    due("needle(1, 0)", x.needle(1, 0), 0);
    x.want(0, 1);
    x.kind(1, 1);
    due("turn(1), HELD", x.turn(1), 0);
    due("needle(1, 0), HELD", x.needle(1, 0), 1);
    x.kind(1, 4);
    due("turn(1), EDGE", x.turn(1), 0);
    due("needle(1, 0), EDGE", x.needle(1, 0), 0);
    x.let(1, true);
    due("turn(1), LET GO", x.turn(1), 1);
    x.kind(1, 3);
    due("turn(1), FREE", x.turn(1), 0);
    NeedlePlate y = sized(3, 3);
    for (int j = 0; j < 12; j++) y.want(j, -1000);
    for (int i = 0; i < 9; i++) y.kind(i, 2);
    due("turn(4), the most", y.turn(4), -16000);
    due("turn(4), back", y.turn(4), 16000);
  }

  private static void gauge() {
    says("promise 7", "-1000000: BAD.");
    for (int[] size : SIZES) {
      NeedlePlate x = sized(size[0], size[1]);
      Check.range("gauge(_)", x::gauge, 0, size[0] * size[1] - 1, BAD_AMONG_NUMBERS);
    }
    says("promise 7", "the WANTS of its JOINTS turn their signs: by how much THE STRAIN is more");
    NeedlePlate x = sized(1, 3);
    x.want(0, 1000);
    x.want(1, -1000);
    due("gauge(1)", x.gauge(1), 0);
    due("joint(0, 4)", x.joint(0, 4), 0);
    due("joint(1, 4)", x.joint(1, 4), 2000);
    due("needle(1, 0)", x.needle(1, 0), 1);
    due("gauge(0)", x.gauge(0), 0);
    due("joint(0, 4)", x.joint(0, 4), 2000);
    due("joint(1, 4), not its own", x.joint(1, 4), 2000);
    x.want(0, 0);
    due("gauge(0), a WANT of 0", x.gauge(0), 0);
    due("joint(0, 4)", x.joint(0, 4), 1000);
    x.plate(1, 2);
    x.want(0, 1);
    x.kind(0, 1);
    due("gauge(0), HELD", x.gauge(0), 1);
    due("gauge(0), -1 is no refusal", x.gauge(0), -1);
    x.plate(1, 1);
    due("gauge(0) without JOINTS", x.gauge(0), 0);
    due("needle(0, 0)", x.needle(0, 0), 1);
  }

  private static void want() {
    says("promise 8", "A WANT becomes v: what it was. -1000000: BAD.");
    for (int[] size : SIZES) {
      NeedlePlate x = sized(size[0], size[1]);
      int joints = x.about(3);
      if (joints > 0) Check.range("want(_, 5)", v -> x.want(v, 5), 0, joints - 1, BAD_AMONG_NUMBERS);
      else Check.beyond("want(_, 5)", v -> x.want(v, 5), 0, -1, BAD_AMONG_NUMBERS);
    }
    says("Terms", "Each has a WANT, -1000 .. 1000, 0 at first");
    NeedlePlate x = sized(1, 2);
    Check.range("want(0, _)", v -> x.want(0, v), -1000, 1000, BAD_AMONG_NUMBERS);
    due("want(0, -1000)", x.want(0, -1000), 1000);
    due("want(0, 1000)", x.want(0, 1000), -1000);
    due("want(0, -1)", x.want(0, -1), 1000);
    due("want(0, -1), -1 is no refusal", x.want(0, -1), -1);
    due("want(0, 0)", x.want(0, 0), -1);
  }

  private static void arrange() {
    says("promise 9", "how THE STRAIN is then. BAD.");
    for (int[] size : SIZES) {
      NeedlePlate x = sized(size[0], size[1]);
      Check.range("arrange(_)", x::arrange, 0, (1 << size[0] * size[1]) - 1, BAD);
    }
    says("promise 9", "TURNS are set so that all that are not HELD POINT as an ARRANGEMENT has it");
    NeedlePlate x = line();
    x.kind(0, 1);
    x.kind(1, 4);
    x.kind(2, 4);
    x.let(2, true);
    due("arrange(7)", x.arrange(7), 0);
    due("point(0), HELD", x.point(0), 0);
    due("point(1), EDGE", x.point(1), 0);
    due("point(2), LET GO", x.point(2), 1);
    due("needle(0, 0), HELD", x.needle(0, 0), 0);
    due("needle(1, 0), EDGE", x.needle(1, 0), 0);
    due("arrange(6)", x.arrange(6), 3);
    due("point(2), LET GO", x.point(2), 0);
    due("arrange(6), nothing changes", x.arrange(6), 3);
    due("about(7)", x.about(7), 9);
    x.kind(2, 1);
    due("arrange(1), all HELD", x.arrange(1), 3);
    due("needle(2, 0)", x.needle(2, 0), 0);
    // neither the ARRANGEMENT nor what is TOLD comes to the TURN of one that is HELD
    x.turn(0);
    x.tell(1, 1);
    due("arrange(2), all HELD", x.arrange(2), 5);
    due("needle(0, 0), TOLD 0", x.needle(0, 0), 1);
    due("needle(1, 0), TOLD 1", x.needle(1, 0), 0);
  }

  private static void one() {
    says("promise 10", "As long as some NEEDLE's turn() would make THE STRAIN less");
    NeedlePlate x = sized(1, 3);
    due("one(), no WANTS", x.one(), 0);
    due("about(7), no turn is no refusal", x.about(7), 1);
    // 1 has as much to win as to lose
    x.want(0, 4);
    x.want(1, -4);
    x.kind(0, 1);
    x.kind(2, 1);
    due("one(), neither less nor more", x.one(), 0);
    x.want(0, 3);
    due("one(), less by 1", x.one(), 1);
    due("point(1)", x.point(1), 1);
    due("one(), again", x.one(), 0);
    says("promise 10", "the first one (by number) is turned, all from the first on anew: how many turns");
    NeedlePlate y = pair(2, 0, 1);
    due("one()", y.one(), 1);
    due("point(0), the first one", y.point(0), 1);
    due("point(1)", y.point(1), 1);
    // 0 to agree with 1, then 1 to differ from 2, and 0 anew
    NeedlePlate z = sized(1, 3);
    z.want(0, 2);
    z.want(1, -3);
    z.arrange(4);
    due("one(), from the first on anew", z.one(), 3);
    due("point(0)", z.point(0), 1);
    due("point(1)", z.point(1), 1);
    due("point(2)", z.point(2), 0);
    due("undo(), all turns at once", z.undo(), 3);
    due("point(0)", z.point(0), 1);
    due("point(1)", z.point(1), 0);
    // what is HELD does not make it less, though a turn of its TURN can be made
    NeedlePlate held = pair(2, 0, 1);
    held.kind(0, 4);
    held.kind(1, 1);
    held.tell(1, 1);
    due("one(), all HELD", held.one(), 0);
    held.let(0, true);
    due("one(), LET GO", held.one(), 1);
    due("point(0)", held.point(0), 1);
    NeedlePlate largest = sized(3, 4);
    due("one() of twelve", largest.one(), 0);
    largest.want(16, -1);
    due("one() of twelve", largest.one(), 1);
    due("point(7), the first one", largest.point(7), 1);
    largest.kind(7, 1);
    due("one() of twelve, the last one", largest.one(), 1);
    due("point(11)", largest.point(11), 1);
  }

  private static void undo() {
    says("promise 11", "All is as ahead of the latest kind(), tell(), let(), turn(), gauge(), want(), arrange(), one(), read() that was not refused: how many more could be undone");
    NeedlePlate x = line();
    due("undo()", x.undo(), 1);
    due("joint(1, 4)", x.joint(1, 4), 1000);
    due("joint(0, 4)", x.joint(0, 4), 1005);
    due("undo(), the one ahead of it", x.undo(), 0);
    due("joint(0, 4)", x.joint(0, 4), 1000);
    says("promise 11", "STATE: there is none.");
    due("undo()", x.undo(), STATE);
    due("undo(), again", x.undo(), STATE);
    due("about(7)", x.about(7), 0);
    x.turn(2);
    due("undo(), one anew", x.undo(), 0);
    due("needle(2, 0)", x.needle(2, 0), 0);
    x.turn(2);
    x.plate(1, 3);
    says("promise 2", "nothing can be undone");
    due("undo() behind plate()", x.undo(), STATE);
    says("promise 11", "that was not refused");
    x.want(0, 1);
    x.want(0, 1001);
    x.want(2, 0);
    x.turn(3);
    x.gauge(-1);
    x.kind(0, 5);
    x.tell(0, -1);
    x.let(0, true);
    x.arrange(8);
    x.read(0, 0, 0, 1);
    x.read(0, 0, 3, 0);
    due("about(7)", x.about(7), 1);
    due("undo()", x.undo(), 0);
    due("joint(0, 4)", x.joint(0, 4), 1000);
    says("promise 11", "kind(), tell(), let(), turn(), gauge(), want(), arrange(), one(), read()");
    eachIsUndone();
    says("promise 11", "All is as ahead of the latest");
    allIsGivenBack();
  }

  private static String settingOf(NeedlePlate x) {
    StringBuilder seen = new StringBuilder();
    for (int i = 0; i < 4; i++) {
      for (int what = 0; what < 5; what++) seen.append(x.needle(i, what));
      seen.append(' ');
    }
    for (int j = 0; j < 4; j++) seen.append(x.joint(j, 4)).append(' ');
    return seen.append(x.strain()).toString();
  }

  private static final List<Consumer<NeedlePlate>> CHANGES = List.of(
      x -> x.kind(0, 4), x -> x.tell(0, 1), x -> x.let(0, true), x -> x.turn(0), x -> x.want(0, -5),
      x -> x.want(3, 7), x -> x.gauge(0), x -> x.kind(0, 4), x -> x.let(0, true), x -> x.kind(0, 2),
      x -> x.kind(1, 1), x -> x.kind(2, 3), x -> x.arrange(9), x -> x.one(), x -> x.read(0, 0, 1, 2),
      x -> x.tell(0, 0), x -> x.tell(3, 1), x -> x.turn(1), x -> x.gauge(3), x -> x.arrange(0));

  private static NeedlePlate changed(int changes) {
    NeedlePlate x = sized(2, 2);
    x.strip(0, 0, 1);
    x.row(0, 0, 2);
    x.put(0, 0, 0, 0, -8);
    x.put(0, 0, 0, 1, 9);
    for (Consumer<NeedlePlate> change : CHANGES.subList(0, changes)) change.accept(x);
    return x;
  }

  private static void allIsGivenBack() {
    int all = CHANGES.size();
    for (int left = all; left >= 0; left--) {
      NeedlePlate x = changed(all);
      for (int k = all - 1; k >= left; k--) due("undo()", x.undo(), k);
      Check.dueText("what is seen with " + left + " changes left", settingOf(x), settingOf(changed(left)));
    }
  }

  /** Each of the nine, even where it changes nothing, is one that can be undone. */
  private static void eachIsUndone() {
    NeedlePlate x = line();
    x.plate(1, 3);
    x.kind(0, 4);
    x.kind(0, 4);
    x.tell(0, 0);
    x.let(0, false);
    x.want(0, 0);
    x.arrange(0);
    x.one();
    x.read(3, 0, 2, 0);
    x.turn(0);
    x.gauge(1);
    for (int left = 9; left >= 0; left--) due("undo()", x.undo(), left);
    due("undo()", x.undo(), STATE);
    // what is seen, and strips, are not
    x.point(0);
    x.worth(0);
    x.least();
    x.paired();
    x.strip(0, 0, 1);
    x.row(0, 0, 1);
    x.put(0, 0, 0, 0, 1);
    x.copy(0, 0, 0, 0, 0, 0, 1);
    due("undo(), none of the nine", x.undo(), STATE);
  }

  private static void undoOfTwenty() {
    says("promise 11", "(the latest 20 can)");
    for (int done : new int[] {19, 20, 21, 40, 41, 59}) {
      NeedlePlate x = sized(1, 2);
      for (int v = 1; v <= done; v++) x.want(0, v);
      int can = Math.min(done, 20);
      due("about(7) behind " + done, x.about(7), can);
      for (int k = 1; k <= can; k++) {
        due("undo() behind " + done, x.undo(), can - k);
        due("joint(0, 4) behind " + done, x.joint(0, 4), 1000 + done - k);
      }
      due("undo() behind " + done, x.undo(), STATE);
      due("joint(0, 4), as it was left", x.joint(0, 4), 1000 + done - can);
    }
    NeedlePlate x = sized(1, 2);
    for (int v = 1; v <= 25; v++) x.want(0, v);
    for (int k = 0; k < 5; k++) x.undo();
    for (int v = 101; v <= 107; v++) x.want(0, v);
    due("about(7), full anew", x.about(7), 20);
    for (int v = 106; v >= 101; v--) {
      x.undo();
      due("joint(0, 4)", x.joint(0, 4), 1000 + v);
    }
    for (int v = 20; v >= 7; v--) {
      due("undo()", x.undo(), v - 7);
      due("joint(0, 4)", x.joint(0, 4), 1000 + v);
    }
    due("undo()", x.undo(), STATE);
  }

  // ---- what is seen

  private static void point() {
    says("promise 12", "How a NEEDLE POINTS. BAD.");
    for (int[] size : SIZES) {
      NeedlePlate x = sized(size[0], size[1]);
      Check.range("point(_)", x::point, 0, size[0] * size[1] - 1, BAD);
    }
  }

  private static void worth() {
    says("promise 13", "The WORTH of a NEEDLE. BAD.");
    for (int[] size : SIZES) {
      NeedlePlate x = sized(size[0], size[1]);
      Check.range("worth(_)", x::worth, 0, size[0] * size[1] - 1, BAD);
    }
  }

  private static void needle() {
    says("promise 14", "Of a NEEDLE: 0 TURN, 1 TOLD, 2 KIND, 3 whether it is LET GO, 4 whether it is HELD. BAD.");
    for (int[] size : SIZES) {
      NeedlePlate x = sized(size[0], size[1]);
      Check.range("needle(_, 0)", v -> x.needle(v, 0), 0, size[0] * size[1] - 1, BAD);
      Check.range("needle(0, _)", v -> x.needle(0, v), 0, 4, BAD);
    }
    NeedlePlate x = new NeedlePlate();
    for (int kind = 0; kind < 5; kind++) {
      x.kind(0, kind);
      due("needle(0, 2)", x.needle(0, 2), kind);
      due("needle(0, 4) of KIND " + kind, x.needle(0, 4), kind == 1 || kind == 4 ? 1 : 0);
    }
    x.let(0, true);
    due("needle(0, 3), LET GO", x.needle(0, 3), 1);
    due("needle(0, 4), LET GO", x.needle(0, 4), 0);
  }

  private static void joint() {
    says("promise 15", "Of a JOINT: 0 and 1 its NEEDLES, 2 and 3 its FIELDS (the lesser number first), 4 WANT + 1000, 5 whether it is UNMET, 6 AMOUNT. BAD.");
    for (int[] size : SIZES) {
      NeedlePlate x = sized(size[0], size[1]);
      int joints = x.about(3);
      if (joints > 0) {
        Check.range("joint(_, 4)", v -> x.joint(v, 4), 0, joints - 1, BAD);
        Check.range("joint(0, _)", v -> x.joint(0, v), 0, 6, BAD);
      } else {
        Check.beyond("joint(_, 0)", v -> x.joint(v, 0), 0, -1, BAD);
      }
      for (int j = 0; j < joints; j++) {
        due("joint(" + j + "), the lesser first", Integer.compare(x.joint(j, 2), x.joint(j, 3)), size[0] == 1 || size[1] == 1 ? 0 : -1);
      }
    }
    NeedlePlate x = pair(-1000, 0, 0);
    due("joint(0, 4), the least WANT", x.joint(0, 4), 0);
    due("joint(0, 6)", x.joint(0, 6), 1000);
    x.want(0, 1000);
    due("joint(0, 4), the most", x.joint(0, 4), 2000);
    due("joint(0, 6)", x.joint(0, 6), 1000);
    x.kind(0, 2);
    x.kind(1, 2);
    due("joint(0, 6), the most", x.joint(0, 6), 4000);
    due("joint(0, 4)", x.joint(0, 4), 2000);
  }

  private static void strain() {
    says("promise 16", "THE STRAIN.");
    due("strain() without JOINTS", sized(1, 1).strain(), 0);
    due("strain() without WANTS", sized(3, 4).strain(), 0);
    NeedlePlate x = sized(4, 3);
    for (int j = 0; j < 17; j++) x.want(j, -1000);
    due("strain(), all UNMET", x.strain(), 17000);
    for (int i = 0; i < 12; i++) x.kind(i, 2);
    due("strain(), the most", x.strain(), 68000);
    due("least()", x.least(), 0);
    due("above(67999)", x.above(67999), 68000);
    due("above(68000)", x.above(68000), NONE);
    due("counts(68000)", x.counts(68000), 2);
    due("draw(68000, 1)", x.draw(68000, 1), 4095);
    for (int i = 0; i < 12; i++) x.kind(i, 3);
    due("strain(), all FREE", x.strain(), 0);
  }

  private static void troubled() {
    says("promise 17", "Whether a FIELD is TROUBLED. BAD.");
    for (int[] size : SIZES) {
      NeedlePlate x = sized(size[0], size[1]);
      Check.range("troubled(_)", x::troubled, 0, (size[0] - 1) * (size[1] - 1), BAD);
    }
    NeedlePlate x = sized(4, 3);
    x.want(16, -1);
    for (int f = 0; f < 7; f++) due("troubled(" + f + ")", x.troubled(f), f > 4 ? 1 : 0);
  }

  private static void apart() {
    says("promise 18", "APART. -1: BAD.");
    for (int[] size : SIZES) {
      NeedlePlate x = sized(size[0], size[1]);
      int last = (size[0] - 1) * (size[1] - 1);
      Check.range("apart(_, 0)", v -> x.apart(v, 0), 0, last, BAD);
      Check.range("apart(0, _)", v -> x.apart(0, v), 0, last, BAD);
      due("apart(LOW, HIGH)", x.apart(LOW, HIGH), BAD);
    }
    says("Terms", "the least sum of AMOUNTS of JOINTS that a way from the one to the other, from FIELD to FIELD over a JOINT that has both, goes over");
    NeedlePlate x = sized(3, 3);
    for (int j = 0; j < 12; j++) x.want(j, j % 2 == 0 ? 1000 : -1000);
    for (int i = 0; i < 9; i++) x.kind(i, 2);
    for (int f = 0; f < 5; f++) due("apart(" + f + ", " + f + "), no way at all", x.apart(f, f), 0);
    due("apart(0, 1), the most", x.apart(0, 1), 4000);
    due("apart(0, 3)", x.apart(0, 3), 8000);
    due("apart(3, 0)", x.apart(3, 0), 8000);
    due("apart(4, 0)", x.apart(4, 0), 4000);
    x.want(2, 0);
    due("apart(0, 2), over a WANT of 0", x.apart(0, 2), 0);
    due("apart(0, 3), by 2", x.apart(0, 3), 4000);
    // each FIELD may be the one on the way of two others
    for (int over = 0; over < 5; over++) wayOver(over);
    NeedlePlate y = line();
    due("apart(0, 0), one row", y.apart(0, 0), 0);
    // outside has two JOINTS with a corner's FIELD: the lesser one is gone over
    NeedlePlate z = sized(2, 2);
    for (int j = 0; j < 4; j++) z.want(j, 10 - j);
    due("apart(0, 1)", z.apart(0, 1), 7);
    z.want(0, -2);
    due("apart(0, 1)", z.apart(0, 1), 2);
  }

  private static void wayOver(int over) {
    NeedlePlate x = sized(3, 3);
    for (int j = 0; j < 12; j++) x.want(j, x.joint(j, 2) == over || x.joint(j, 3) == over ? -1 : 50);
    int[] beside = over == 0 || over == 3 ? new int[] {1, 2} : new int[] {0, 3};
    due("apart() over " + over, x.apart(beside[0], beside[1]), 2);
    due("apart() over " + over, x.apart(beside[1], beside[0]), 2);
  }

  private static void paired() {
    says("promise 19", "PAIRED. STATE: a NEEDLE is HELD.");
    for (int i = 0; i < 9; i++) {
      NeedlePlate x = new NeedlePlate();
      x.want(0, -1);
      due("paired(), none HELD", x.paired(), 0);
      x.kind(i, 1);
      due("paired(), " + i + " HELD", x.paired(), STATE);
      x.kind(i, 2);
      due("paired(), DOUBLE", x.paired(), 0);
      x.kind(i, 3);
      due("paired(), FREE", x.paired(), 0);
      if (i == 4) continue;
      x.kind(i, 4);
      due("paired(), EDGE", x.paired(), STATE);
      x.let(i, true);
      due("paired(), LET GO", x.paired(), 0);
      x.let(i, false);
      due("paired(), EDGE", x.paired(), STATE);
    }
    says("Terms", "PAIRED is the least sum of APART, if all TROUBLED FIELDS are put in pairs (0 without; there is always an even number).");
    due("paired(), no JOINTS", sized(1, 1).paired(), 0);
    due("paired(), one row", line().paired(), 0);
    NeedlePlate x = sized(2, 6);
    for (int j = 0; j < 16; j++) x.want(j, 9);
    due("paired(), none TROUBLED", x.paired(), 0);
    for (int c = 0; c < 5; c++) x.want(c, -9);
    due("about(6), all", x.about(6), 6);
    due("paired(), all", x.paired(), 27);
    due("least()", x.least(), 27);
    x.want(12, 1);
    due("paired(), two of them nearer", x.paired(), 19);
    due("least()", x.least(), 19);
    NeedlePlate most = sized(3, 4);
    for (int j = 0; j < 17; j++) most.want(j, -1000);
    for (int i = 0; i < 12; i++) most.kind(i, 2);
    due("paired(), none at the most", most.paired(), 0);
    for (int j = 10; j < 17; j += 2) most.want(j, 1000);
    due("paired() and least()", most.paired(), most.least());
  }

  private static void of() {
    says("promise 20", "The STRAIN of an ARRANGEMENT, whether it MAY BE or not. BAD.");
    for (int[] size : SIZES) {
      NeedlePlate x = sized(size[0], size[1]);
      Check.range("of(_)", x::of, 0, (1 << size[0] * size[1]) - 1, BAD);
    }
    NeedlePlate x = line();
    int[] strains = {3, 0, 5, 8, 8, 5, 0, 3};
    for (int a = 0; a < 8; a++) due("of(" + a + ")", x.of(a), strains[a]);
    for (int i = 0; i < 3; i++) x.kind(i, 1);
    for (int a = 0; a < 8; a++) due("of(" + a + "), may not be", x.of(a), strains[a]);
    due("strain(), as it was", x.strain(), 3);
  }

  // ---- what is told

  private static void about() {
    says("promise 34", "0 ROWS, 1 COLUMNS, 2 NEEDLES, 3 JOINTS, 4 FIELDS, 5 HELD ones, 6 TROUBLED FIELDS, 7 what undo() could. BAD.");
    for (int[] size : SIZES) {
      NeedlePlate x = sized(size[0], size[1]);
      Check.range("about(_)", x::about, 0, 7, BAD);
      int r = size[0], c = size[1];
      int[] told = {r, c, r * c, r * (c - 1) + (r - 1) * c, (r - 1) * (c - 1) + 1, 0, 0, 0};
      for (int what = 0; what < 8; what++) due("about(" + what + ")", x.about(what), told[what]);
      for (int i = 0; i < r * c; i++) x.kind(i, 1);
      due("about(5), all", x.about(5), r * c);
      due("about(7)", x.about(7), r * c);
    }
    NeedlePlate x = sized(1, 3);
    for (int kind = 0; kind < 5; kind++) {
      x.kind(1, kind);
      due("about(5), KIND " + kind, x.about(5), kind == 1 || kind == 4 ? 1 : 0);
    }
    x.let(1, true);
    due("about(5), LET GO", x.about(5), 0);
  }

  private static void trace() {
    says("Terms", "Numbers in brackets come to THE TRACE as often as a body is asked by point() and worth().");
    int[] points = {1, 10, 1, 1, 110, 101};
    int[] worths = {1000, 1000, 12000, 100000, 1000, 1000};
    for (int k = 0; k < 6; k++) {
      NeedlePlate x = new NeedlePlate();
      x.kind(0, Math.min(k, 4));
      if (k == 5) x.let(0, true);
      x.point(0);
      due("trace() behind point() of " + k, x.trace(), points[k]);
      x.point(0);
      due("trace() behind two", x.trace(), 2 * points[k]);
      x.worth(0);
      due("trace() behind worth() of " + k, x.trace(), 2 * points[k] + worths[k]);
      x.point(9);
      x.point(-1);
      x.worth(9);
      x.worth(-1);
      due("trace() behind refused ones", x.trace(), 2 * points[k] + worths[k]);
      x.want(0, 5);
      x.strain();
      x.joint(0, 5);
      x.joint(0, 6);
      x.needle(0, 4);
      x.turn(0);
      x.gauge(0);
      x.one();
      x.of(1);
      x.least();
      x.apart(0, 1);
      x.paired();
      due("trace() behind others", x.trace(), 2 * points[k] + worths[k]);
      x.plate(1, 1);
      due("trace() behind plate()", x.trace(), 2 * points[k] + worths[k]);
    }
  }

  private static void calls() {
    says("What it is", "An object is used for at most 512 calls after it has been made");
    NeedlePlate x = new NeedlePlate();
    x.kind(0, 3);
    for (int k = 0; k < 510; k++) x.worth(0);
    due("trace(), the 512th call", x.trace(), 51000000);
    NeedlePlate y = new NeedlePlate();
    for (int k = 1; k <= 490; k++) y.want(11, k);
    for (int k = 1; k <= 20; k++) due("undo()", y.undo(), 20 - k);
    due("joint(11, 4)", y.joint(11, 4), 1470);
    due("undo(), the 512th call", y.undo(), STATE);
  }
}
