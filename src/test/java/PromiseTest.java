/** For each promise of the document: ordinary inputs, the edges that it names, and wrong inputs. */
public final class PromiseTest {
  private static final int BAD = -1, STATE = -2, NONE = -9, NULL = -11, INDEX = -12, CAST = -13, SIZE = -15;
  private static final int BAD_AMONG_NUMBERS = -1000000;
  private static final int LOW = Integer.MIN_VALUE, HIGH = Integer.MAX_VALUE;

  private static int wrong = 0;
  private static int promise = 0;

  private static void due(String call, long got, long want) {
    if (got != want) {
      wrong++;
      System.out.println("promise " + promise + ": " + call + " answered " + got + ", due is " + want);
    }
  }

  public static void main(String[] args) {
    promise = 1; newObject();
    promise = 2; plate();
    promise = 3; kind();
    promise = 4; tell();
    promise = 5; let();
    promise = 6; turn();
    promise = 7; gauge();
    promise = 8; want();
    promise = 9; arrange();
    promise = 10; one();
    promise = 11; undo();
    promise = 12; point();
    promise = 13; worth();
    promise = 14; needle();
    promise = 15; joint();
    promise = 16; strain();
    promise = 17; troubled();
    promise = 18; apart();
    promise = 19; paired();
    promise = 20; of();
    promise = 21; least();
    promise = 22; many();
    promise = 23; best();
    promise = 24; sure();
    promise = 25; counts();
    promise = 26; draw();
    promise = 27; above();
    promise = 28; strip();
    promise = 29; row();
    promise = 30; put();
    promise = 31; item();
    promise = 32; copy();
    promise = 33; read();
    promise = 34; about();
    promise = 35; trace();
    promise = 36; status();
    System.out.println(wrong == 0 ? "all promises are kept" : wrong + " answers are not as due");
    if (wrong != 0) System.exit(1);
  }

  /** Three rows of four, as large as a plate may be. */
  private static NeedlePlate large() {
    NeedlePlate x = new NeedlePlate();
    x.plate(3, 4);
    return x;
  }

  /** Two by two with three that want to agree and one, the last, that wants to differ less. */
  private static NeedlePlate square() {
    NeedlePlate x = new NeedlePlate();
    x.plate(2, 2);
    x.want(0, 3);
    x.want(1, 4);
    x.want(2, 5);
    x.want(3, -2);
    return x;
  }

  /** One row of three: needle 0 and 1 want to agree by 5, 1 and 2 to differ by 3. */
  private static NeedlePlate line() {
    NeedlePlate x = new NeedlePlate();
    x.plate(1, 3);
    x.want(0, 5);
    x.want(1, -3);
    return x;
  }

  private static void newObject() {
    NeedlePlate x = new NeedlePlate();
    due("about(0)", x.about(0), 3);
    due("about(1)", x.about(1), 3);
    due("about(2)", x.about(2), 9);
    due("about(3)", x.about(3), 12);
    due("about(4)", x.about(4), 5);
    due("about(7)", x.about(7), 0);
    due("trace()", x.trace(), 0);
    due("status()", x.status(), 0);
    due("strain()", x.strain(), 0);
    for (int i = 0; i < 9; i++) {
      for (int what = 0; what < 5; what++) due("needle(" + i + ", " + what + ")", x.needle(i, what), 0);
    }
    for (int j = 0; j < 12; j++) due("joint(" + j + ", 4)", x.joint(j, 4), 1000);
    for (int s = 0; s < 4; s++) due("row(" + s + ", 0, 1)", x.row(s, 0, 1), NULL);
    due("many()", x.many(), 512);
    NeedlePlate y = new NeedlePlate();
    y.want(0, 7);
    due("want of another object", x.want(0, 1), 0);
  }

  private static void plate() {
    NeedlePlate x = new NeedlePlate();
    for (int r = 1; r <= 6; r++) {
      for (int c = 1; c <= 6; c++) {
        due("plate(" + r + ", " + c + ")", x.plate(r, c), r * c > 12 ? BAD : r * (c - 1) + (r - 1) * c);
      }
    }
    x = line();
    x.kind(0, 4);
    x.let(0, true);
    x.tell(0, 1);
    x.turn(0);
    x.point(0);
    x.strip(0, 2, 1);
    x.row(0, 0, 1);
    x.put(0, 2, 0, 0, 9);
    x.put(0, 1, 0, 0, 9);
    due("plate(0, 3)", x.plate(0, 3), BAD);
    due("plate(3, 0)", x.plate(3, 0), BAD);
    due("plate(1, 7)", x.plate(1, 7), BAD);
    due("plate(7, 1)", x.plate(7, 1), BAD);
    due("plate(-2, -3)", x.plate(-2, -3), BAD);
    due("plate(LOW, HIGH)", x.plate(LOW, HIGH), BAD);
    due("plate(65536, 65536)", x.plate(65536, 65536), BAD);
    due("about(1), refused", x.about(1), 3);
    due("about(7), refused", x.about(7), 6);
    due("needle(0, 0), refused", x.needle(0, 0), 1);
    due("plate(1, 3)", x.plate(1, 3), 2);
    for (int what = 0; what < 5; what++) due("needle(0, " + what + ")", x.needle(0, what), 0);
    due("joint(0, 4)", x.joint(0, 4), 1000);
    due("joint(1, 4)", x.joint(1, 4), 1000);
    due("undo()", x.undo(), STATE);
    due("trace()", x.trace(), 101);
    due("status()", x.status(), CAST);
    due("item(0, 2, 0, 0)", x.item(0, 2, 0, 0), 9);
    due("many()", x.many(), 8);
  }

  private static void kind() {
    NeedlePlate x = large();
    for (int i = 0; i < 12; i++) due("kind(" + i + ", 4)", x.kind(i, 4), i == 5 || i == 6 ? BAD : 0);
    due("needle(5, 2)", x.needle(5, 2), 0);
    due("kind(5, 3)", x.kind(5, 3), 0);
    due("kind(5, 2)", x.kind(5, 2), 3);
    due("kind(5, 1)", x.kind(5, 1), 2);
    due("kind(5, 0)", x.kind(5, 0), 1);
    due("kind(5, 5)", x.kind(5, 5), BAD);
    due("kind(5, -1)", x.kind(5, -1), BAD);
    due("kind(12, 0)", x.kind(12, 0), BAD);
    due("kind(-1, 0)", x.kind(-1, 0), BAD);
    due("kind(LOW, HIGH)", x.kind(LOW, HIGH), BAD);
    x.let(0, true);
    x.tell(0, 1);
    x.turn(0);
    due("kind(0, 4)", x.kind(0, 4), 4);
    due("needle(0, 3)", x.needle(0, 3), 0);
    due("needle(0, 1)", x.needle(0, 1), 1);
    due("needle(0, 0)", x.needle(0, 0), 1);
    x.let(0, true);
    due("kind(0, 1)", x.kind(0, 1), 4);
    due("needle(0, 3)", x.needle(0, 3), 0);
    x.plate(2, 6);
    for (int i = 0; i < 12; i++) due("kind(" + i + ", 4)", x.kind(i, 4), 0);
    x.plate(3, 3);
    due("kind(4, 4)", x.kind(4, 4), BAD);
    due("about(7)", x.about(7), 0);
    // a kind that changes what is held changes what may be
    x = line();
    due("many()", x.many(), 2);
    x.kind(0, 1);
    due("many()", x.many(), 1);
    x.kind(0, 3);
    due("many()", x.many(), 4);
  }

  private static void tell() {
    NeedlePlate x = line();
    due("tell(2, 1)", x.tell(2, 1), 0);
    due("tell(2, 1)", x.tell(2, 1), 1);
    due("point(2)", x.point(2), 0);
    due("needle(2, 1)", x.needle(2, 1), 1);
    due("tell(2, 0)", x.tell(2, 0), 1);
    due("tell(2, 2)", x.tell(2, 2), BAD);
    due("tell(2, -1)", x.tell(2, -1), BAD);
    due("tell(3, 0)", x.tell(3, 0), BAD);
    due("tell(-1, 0)", x.tell(-1, 0), BAD);
    due("about(7)", x.about(7), 5);
    x.kind(0, 1);
    due("best(0)", x.best(0), 1);
    x.tell(0, 1);
    due("best(0)", x.best(0), 6);
    due("strain()", x.strain(), 8);
  }

  private static void let() {
    NeedlePlate x = line();
    due("let(0, true) of a NEEDLE", x.let(0, true), BAD);
    x.kind(0, 1);
    due("let(0, true) of a HELD", x.let(0, true), BAD);
    x.kind(0, 2);
    due("let(0, true) of a DOUBLE", x.let(0, true), BAD);
    x.kind(0, 3);
    due("let(0, true) of a FREE", x.let(0, true), BAD);
    x.kind(0, 4);
    x.tell(0, 1);
    due("point(0)", x.point(0), 1);
    due("least(), held", x.best(0), 6);
    due("let(0, true)", x.let(0, true), 0);
    due("point(0)", x.point(0), 0);
    due("best(0), let go", x.best(0), 1);
    due("let(0, true)", x.let(0, true), 1);
    due("needle(0, 3)", x.needle(0, 3), 1);
    due("let(0, false)", x.let(0, false), 1);
    due("let(0, false)", x.let(0, false), 0);
    due("let(1, false)", x.let(1, false), BAD);
    due("let(3, true)", x.let(3, true), BAD);
    due("let(-1, true)", x.let(-1, true), BAD);
  }

  private static void turn() {
    NeedlePlate x = line();
    due("strain()", x.strain(), 3);
    due("turn(0)", x.turn(0), 5);
    due("turn(1)", x.turn(1), -8);
    due("strain()", x.strain(), 0);
    due("turn(2)", x.turn(2), 3);
    due("needle(2, 0)", x.needle(2, 0), 1);
    x.kind(2, 1);
    due("turn(2), held", x.turn(2), 0);
    due("needle(2, 0)", x.needle(2, 0), 0);
    x.kind(2, 2);
    due("turn(2), double", x.turn(2), 6);
    due("turn(3)", x.turn(3), BAD_AMONG_NUMBERS);
    due("turn(-1)", x.turn(-1), BAD_AMONG_NUMBERS);
    due("turn(HIGH)", x.turn(HIGH), BAD_AMONG_NUMBERS);
    due("about(7)", x.about(7), 9);
  }

  private static void gauge() {
    NeedlePlate x = line();
    due("best(0)", x.best(0), 1);
    due("gauge(1)", x.gauge(1), 0);
    due("best(0)", x.best(0), 3);
    due("joint(0, 4)", x.joint(0, 4), 995);
    due("joint(1, 4)", x.joint(1, 4), 1003);
    due("needle(1, 0)", x.needle(1, 0), 1);
    due("gauge(0)", x.gauge(0), 0);
    due("joint(0, 4)", x.joint(0, 4), 1005);
    due("joint(1, 4)", x.joint(1, 4), 1003);
    due("strain()", x.strain(), 3);
    due("best(0)", x.best(0), 0);
    x.kind(2, 1);
    due("gauge(2), held", x.gauge(2), -3);
    due("joint(1, 4)", x.joint(1, 4), 997);
    due("needle(2, 0)", x.needle(2, 0), 1);
    due("gauge(3)", x.gauge(3), BAD_AMONG_NUMBERS);
    due("gauge(-1)", x.gauge(-1), BAD_AMONG_NUMBERS);
    due("about(7)", x.about(7), 6);
    x = large();
    for (int j = 0; j < 17; j++) x.want(j, j + 1);
    due("gauge(5)", x.gauge(5), 0);
    int flipped = 0;
    for (int j = 0; j < 17; j++) {
      boolean touches = x.joint(j, 0) == 5 || x.joint(j, 1) == 5;
      if (touches) flipped++;
      due("joint(" + j + ", 4)", x.joint(j, 4), touches ? 999 - j : 1001 + j);
    }
    due("JOINTS of 5", flipped, 4);
  }

  private static void want() {
    NeedlePlate x = large();
    due("want(16, 1000)", x.want(16, 1000), 0);
    due("want(16, -1000)", x.want(16, -1000), 1000);
    due("want(16, 0)", x.want(16, 0), -1000);
    due("want(16, 1001)", x.want(16, 1001), BAD_AMONG_NUMBERS);
    due("want(16, -1001)", x.want(16, -1001), BAD_AMONG_NUMBERS);
    due("want(17, 0)", x.want(17, 0), BAD_AMONG_NUMBERS);
    due("want(-1, 0)", x.want(-1, 0), BAD_AMONG_NUMBERS);
    due("want(0, LOW)", x.want(0, LOW), BAD_AMONG_NUMBERS);
    due("about(7)", x.about(7), 3);
    due("least()", x.many(), 4096);
    x.want(0, -1);
    due("many()", x.many(), 2048);
    x.plate(1, 1);
    due("want(0, 0)", x.want(0, 0), BAD_AMONG_NUMBERS);
  }

  private static void arrange() {
    NeedlePlate x = line();
    due("arrange(6)", x.arrange(6), 0);
    due("needle(0, 0)", x.needle(0, 0), 1);
    due("needle(1, 0)", x.needle(1, 0), 1);
    due("needle(2, 0)", x.needle(2, 0), 0);
    due("arrange(5)", x.arrange(5), 5);
    due("arrange(8)", x.arrange(8), BAD);
    due("arrange(-1)", x.arrange(-1), BAD);
    due("arrange(LOW)", x.arrange(LOW), BAD);
    due("strain()", x.strain(), 5);
    x.kind(0, 1);
    due("arrange(2), held", x.arrange(2), 5);
    due("needle(0, 0), held", x.needle(0, 0), 1);
    due("point(0), held", x.point(0), 0);
    x.kind(0, 0);
    due("arrange(0)", x.arrange(0), 3);
    due("about(7)", x.about(7), 8);
  }

  private static void one() {
    NeedlePlate x = square();
    due("one() at the least", x.one(), 0);
    x.arrange(6);
    // 0110: turning 0 takes 8 off 12, then turning 3 takes 2 off 4
    due("strain()", x.strain(), 12);
    due("one()", x.one(), 2);
    due("strain()", x.strain(), 2);
    due("needle(0, 0)", x.needle(0, 0), 1);
    due("needle(3, 0)", x.needle(3, 0), 1);
    due("undo()", x.undo(), 6);
    due("strain()", x.strain(), 12);
    // from the first on anew: 0 is turned first, then only 1 helps, then 0 again
    x = line();
    x.want(0, 2);
    x.arrange(4);
    due("strain()", x.strain(), 5);
    due("one()", x.one(), 3);
    due("needle(0, 0)", x.needle(0, 0), 1);
    due("needle(1, 0)", x.needle(1, 0), 1);
    due("needle(2, 0)", x.needle(2, 0), 0);
    // what is held is not turned
    x = line();
    x.kind(2, 1);
    due("one(), held", x.one(), 0);
    x.kind(2, 0);
    due("one(), not held", x.one(), 1);
    due("needle(2, 0)", x.needle(2, 0), 1);
    x = new NeedlePlate();
    due("one(), all alike", x.one(), 0);
    due("about(7)", x.about(7), 1);
  }

  private static void undo() {
    NeedlePlate x = new NeedlePlate();
    due("undo()", x.undo(), STATE);
    x.plate(2, 2);
    x.kind(0, 4);
    x.tell(0, 1);
    x.let(0, true);
    x.turn(1);
    x.want(0, 5);
    x.gauge(1);
    x.arrange(5);
    x.one();
    x.strip(0, 0, 1);
    x.row(0, 0, 2);
    x.put(0, 0, 0, 0, 7);
    x.read(0, 0, 0, 2);
    x.point(0);
    due("about(7)", x.about(7), 9);
    due("joint(0, 4)", x.joint(0, 4), 1007);
    due("undo() of read()", x.undo(), 8);
    due("joint(0, 4)", x.joint(0, 4), 995);
    due("item(0, 0, 0, 0)", x.item(0, 0, 0, 0), 7);
    due("trace()", x.trace(), 101);
    due("undo() of one()", x.undo(), 7);
    due("needle(0, 0)", x.needle(0, 0), 0);
    due("needle(1, 0)", x.needle(1, 0), 1);
    due("needle(3, 0)", x.needle(3, 0), 1);
    due("undo() of arrange()", x.undo(), 6);
    due("needle(1, 0)", x.needle(1, 0), 0);
    due("needle(3, 0)", x.needle(3, 0), 0);
    due("undo() of gauge()", x.undo(), 5);
    due("needle(1, 0)", x.needle(1, 0), 1);
    due("joint(0, 4)", x.joint(0, 4), 1005);
    due("undo() of want()", x.undo(), 4);
    due("joint(0, 4)", x.joint(0, 4), 1000);
    due("undo() of turn()", x.undo(), 3);
    due("needle(1, 0)", x.needle(1, 0), 0);
    due("undo() of let()", x.undo(), 2);
    due("needle(0, 3)", x.needle(0, 3), 0);
    due("many()", x.many(), 8);
    due("undo() of tell()", x.undo(), 1);
    due("needle(0, 1)", x.needle(0, 1), 0);
    due("undo() of kind()", x.undo(), 0);
    due("needle(0, 2)", x.needle(0, 2), 0);
    due("many()", x.many(), 16);
    due("undo()", x.undo(), STATE);
    latestTwenty();
    refusedOnesDoNotCount();
  }

  private static void latestTwenty() {
    NeedlePlate x = new NeedlePlate();
    for (int v = 1; v <= 25; v++) x.want(0, v);
    due("about(7)", x.about(7), 20);
    for (int v = 24; v >= 5; v--) {
      due("undo()", x.undo(), v - 5);
      due("joint(0, 4)", x.joint(0, 4), 1000 + v);
    }
    due("undo()", x.undo(), STATE);
    due("joint(0, 4)", x.joint(0, 4), 1005);
    x.want(0, 30);
    due("undo()", x.undo(), 0);
    due("joint(0, 4)", x.joint(0, 4), 1005);
  }

  private static void refusedOnesDoNotCount() {
    NeedlePlate x = new NeedlePlate();
    x.want(1, 3);
    x.kind(4, 4);
    x.tell(0, 2);
    x.let(0, true);
    x.turn(9);
    x.gauge(9);
    x.want(12, 0);
    x.arrange(512);
    x.read(0, 0, 0, 1);
    x.plate(0, 0);
    due("about(7)", x.about(7), 1);
    due("undo()", x.undo(), 0);
    due("joint(1, 4)", x.joint(1, 4), 1000);
    due("read(0, 0, 0, 0)", x.read(0, 0, 0, 0), 0);
    due("undo() of a read() of none", x.undo(), 0);
  }

  private static void point() {
    NeedlePlate x = new NeedlePlate();
    x.turn(0);
    for (int kind = 0; kind < 5; kind++) {
      x.kind(0, kind);
      due("point(0) of KIND " + kind, x.point(0), kind == 1 || kind == 4 ? 0 : 1);
    }
    x.let(0, true);
    due("point(0), let go", x.point(0), 1);
    x.tell(0, 1);
    x.turn(0);
    due("point(0), let go", x.point(0), 0);
    x.let(0, false);
    due("point(0), not let go", x.point(0), 1);
    due("point(8)", x.point(8), 0);
    due("point(9)", x.point(9), BAD);
    due("point(-1)", x.point(-1), BAD);
    due("point(LOW)", x.point(LOW), BAD);
  }

  private static void worth() {
    NeedlePlate x = new NeedlePlate();
    int[] worths = {1, 1, 2, 0, 1};
    for (int kind = 0; kind < 5; kind++) {
      x.kind(8, kind);
      due("worth(8) of KIND " + kind, x.worth(8), worths[kind]);
    }
    x.let(8, true);
    due("worth(8), let go", x.worth(8), 1);
    due("worth(9)", x.worth(9), BAD);
    due("worth(-1)", x.worth(-1), BAD);
  }

  private static void needle() {
    NeedlePlate x = new NeedlePlate();
    x.kind(3, 4);
    x.turn(3);
    due("needle(3, 0)", x.needle(3, 0), 1);
    due("needle(3, 1)", x.needle(3, 1), 0);
    due("needle(3, 2)", x.needle(3, 2), 4);
    due("needle(3, 3)", x.needle(3, 3), 0);
    due("needle(3, 4)", x.needle(3, 4), 1);
    x.tell(3, 1);
    x.let(3, true);
    due("needle(3, 1)", x.needle(3, 1), 1);
    due("needle(3, 3)", x.needle(3, 3), 1);
    due("needle(3, 4)", x.needle(3, 4), 0);
    for (int kind = 0; kind < 4; kind++) {
      x.kind(4, kind);
      due("needle(4, 4) of KIND " + kind, x.needle(4, 4), kind == 1 ? 1 : 0);
    }
    due("needle(3, 5)", x.needle(3, 5), BAD);
    due("needle(3, -1)", x.needle(3, -1), BAD);
    due("needle(9, 0)", x.needle(9, 0), BAD);
    due("needle(-1, 0)", x.needle(-1, 0), BAD);
  }

  private static void joint() {
    NeedlePlate x = large();
    // the needles and the fields of every joint; 6 is outside
    int[][] lies = {
      {0, 1, 0, 6}, {1, 2, 1, 6}, {2, 3, 2, 6},
      {4, 5, 0, 3}, {5, 6, 1, 4}, {6, 7, 2, 5},
      {8, 9, 3, 6}, {9, 10, 4, 6}, {10, 11, 5, 6},
      {0, 4, 0, 6}, {1, 5, 0, 1}, {2, 6, 1, 2}, {3, 7, 2, 6},
      {4, 8, 3, 6}, {5, 9, 3, 4}, {6, 10, 4, 5}, {7, 11, 5, 6},
    };
    for (int j = 0; j < lies.length; j++) {
      for (int what = 0; what < 4; what++) due("joint(" + j + ", " + what + ")", x.joint(j, what), lies[j][what]);
    }
    x.plate(4, 1);
    due("joint(2, 0)", x.joint(2, 0), 2);
    due("joint(2, 1)", x.joint(2, 1), 3);
    due("joint(2, 2)", x.joint(2, 2), 0);
    due("joint(2, 3)", x.joint(2, 3), 0);
    x = line();
    due("joint(0, 4)", x.joint(0, 4), 1005);
    due("joint(1, 4)", x.joint(1, 4), 997);
    due("joint(0, 5)", x.joint(0, 5), 0);
    due("joint(1, 5)", x.joint(1, 5), 1);
    due("joint(1, 6)", x.joint(1, 6), 3);
    x.turn(1);
    due("joint(0, 5)", x.joint(0, 5), 1);
    due("joint(1, 5)", x.joint(1, 5), 0);
    x.kind(1, 2);
    x.kind(2, 2);
    due("joint(0, 6)", x.joint(0, 6), 10);
    due("joint(1, 6)", x.joint(1, 6), 12);
    x.kind(0, 3);
    due("joint(0, 6), free", x.joint(0, 6), 0);
    due("joint(0, 5), free", x.joint(0, 5), 0);
    due("joint(0, 4), free", x.joint(0, 4), 1005);
    due("joint(0, 7)", x.joint(0, 7), BAD);
    due("joint(0, -1)", x.joint(0, -1), BAD);
    due("joint(2, 0)", x.joint(2, 0), BAD);
    due("joint(-1, 0)", x.joint(-1, 0), BAD);
  }

  private static void strain() {
    NeedlePlate x = square();
    due("strain()", x.strain(), 2);
    x.turn(0);
    due("strain()", x.strain(), 10);
    x.kind(0, 3);
    due("strain(), free", x.strain(), 2);
    x.kind(0, 2);
    due("strain(), double", x.strain(), 18);
    x.kind(0, 1);
    due("strain(), held", x.strain(), 2);
    x.tell(0, 1);
    due("strain(), told", x.strain(), 10);
    x = large();
    for (int j = 0; j < 17; j++) x.want(j, -1000);
    for (int i = 0; i < 12; i++) x.kind(i, 2);
    due("strain(), the most", x.strain(), 68000);
  }

  private static void troubled() {
    NeedlePlate x = large();
    x.want(10, -1);
    for (int f = 0; f < 7; f++) due("troubled(" + f + ")", x.troubled(f), f == 0 || f == 1 ? 1 : 0);
    x.want(0, -3);
    for (int f = 0; f < 7; f++) due("troubled(" + f + ")", x.troubled(f), f == 1 || f == 6 ? 1 : 0);
    x.kind(0, 3);
    for (int f = 0; f < 7; f++) due("troubled(" + f + "), free", x.troubled(f), f == 0 || f == 1 ? 1 : 0);
    due("troubled(7)", x.troubled(7), BAD);
    due("troubled(-1)", x.troubled(-1), BAD);
    due("troubled(LOW)", x.troubled(LOW), BAD);
    x = line();
    due("troubled(0), both sides", x.troubled(0), 0);
    due("troubled(1)", x.troubled(1), BAD);
  }

  private static void apart() {
    NeedlePlate x = large();
    for (int j = 0; j < 17; j++) x.want(j, 100);
    due("apart(0, 0)", x.apart(0, 0), 0);
    due("apart(0, 1)", x.apart(0, 1), 100);
    due("apart(0, 5)", x.apart(0, 5), 200);
    due("apart(5, 0)", x.apart(5, 0), 200);
    due("apart(6, 4)", x.apart(6, 4), 100);
    // 0 -> 3 -> 4 -> 1 is the shorter way round, whatever the signs are
    x.want(3, -10);
    x.want(14, -20);
    x.want(4, 30);
    due("apart(0, 1)", x.apart(0, 1), 60);
    x.kind(5, 2);
    due("apart(0, 1), double", x.apart(0, 1), 120);
    x.kind(5, 3);
    due("apart(0, 1), free", x.apart(0, 1), 0);
    due("apart(7, 0)", x.apart(7, 0), BAD);
    due("apart(0, 7)", x.apart(0, 7), BAD);
    due("apart(-1, 0)", x.apart(-1, 0), BAD);
    due("apart(0, -1)", x.apart(0, -1), BAD);
    x.plate(1, 1);
    due("apart(0, 0)", x.apart(0, 0), 0);
    due("apart(0, 1)", x.apart(0, 1), BAD);
  }

  private static void paired() {
    NeedlePlate x = large();
    for (int j = 0; j < 17; j++) x.want(j, 100);
    due("paired(), none", x.paired(), 0);
    x.want(10, -60);
    due("paired()", x.paired(), 60);
    x.want(15, -70);
    due("paired(), four", x.paired(), 130);
    due("least()", x.least(), 130);
    x.want(11, 5);
    x.want(12, -1);
    // 0 1 4 5 2 6 are troubled: 0 with 6 by 100, 1 with 2 by 5, 4 with 5 by 70, or 0 with 1, 2 with 6 by 1
    due("about(6)", x.about(6), 6);
    due("paired(), six", x.paired(), 131);
    due("least()", x.least(), 131);
    x.kind(0, 1);
    due("paired(), held", x.paired(), STATE);
    x.kind(0, 4);
    due("paired(), held", x.paired(), STATE);
    x.let(0, true);
    due("paired(), let go", x.paired(), 131);
    x.plate(1, 1);
    due("paired(), one", x.paired(), 0);
  }

  private static void of() {
    NeedlePlate x = square();
    // needle 0 has the highest bit
    due("of(0)", x.of(0), 2);
    due("of(8)", x.of(8), 10);
    due("of(1)", x.of(1), 4);
    due("of(15)", x.of(15), 2);
    due("of(6)", x.of(6), 12);
    x.kind(0, 1);
    due("of(8), may not be", x.of(8), 10);
    due("of(16)", x.of(16), BAD);
    due("of(-1)", x.of(-1), BAD);
    due("of(HIGH)", x.of(HIGH), BAD);
    due("strain()", x.strain(), 2);
  }

  private static void least() {
    NeedlePlate x = square();
    due("least()", x.least(), 2);
    x.kind(0, 1);
    x.kind(1, 1);
    x.tell(1, 1);
    // 0 up, 1 down: 3 at the least, and 2 then stays up with 0
    due("least(), held", x.least(), 3);
    x.kind(0, 3);
    due("least(), free", x.least(), 0);
    x.plate(1, 1);
    due("least(), one", x.least(), 0);
  }

  private static void many() {
    NeedlePlate x = square();
    due("many()", x.many(), 2);
    x.want(1, 2);
    due("many()", x.many(), 4);
    x.kind(0, 1);
    due("many(), held", x.many(), 2);
    x = large();
    due("many(), all", x.many(), 4096);
    for (int i = 0; i < 12; i++) x.kind(i, 1);
    due("many(), all held", x.many(), 1);
  }

  private static void best() {
    NeedlePlate x = square();
    x.want(1, 2);
    // 0000, 1111, and with joint 1, that of needles 2 and 3, unmet instead: 0010 is no such, 0001 is
    due("best(0)", x.best(0), 0);
    due("best(1)", x.best(1), 1);
    due("best(2)", x.best(2), 14);
    due("best(3)", x.best(3), 15);
    due("best(4)", x.best(4), NONE);
    due("best(HIGH)", x.best(HIGH), NONE);
    due("best(-1)", x.best(-1), BAD);
    due("best(LOW)", x.best(LOW), BAD);
    x.kind(0, 1);
    x.tell(0, 1);
    due("best(0), held", x.best(0), 14);
    due("best(2), held", x.best(2), NONE);
  }

  private static void sure() {
    NeedlePlate x = line();
    due("sure(0)", x.sure(0), 1);
    due("sure(1)", x.sure(1), -1);
    x.want(1, 0);
    due("sure(1), neither", x.sure(1), 0);
    x.kind(1, 1);
    x.kind(2, 1);
    due("sure(1), held", x.sure(1), 1);
    x.tell(2, 1);
    due("sure(1), held", x.sure(1), -1);
    due("sure(2)", x.sure(2), BAD_AMONG_NUMBERS);
    due("sure(-1)", x.sure(-1), BAD_AMONG_NUMBERS);
    x.plate(1, 1);
    due("sure(0)", x.sure(0), BAD_AMONG_NUMBERS);
  }

  private static void counts() {
    NeedlePlate x = line();
    due("counts(0)", x.counts(0), 2);
    due("counts(3)", x.counts(3), 2);
    due("counts(5)", x.counts(5), 2);
    due("counts(8)", x.counts(8), 2);
    due("counts(1)", x.counts(1), 0);
    due("counts(HIGH)", x.counts(HIGH), 0);
    due("counts(-1)", x.counts(-1), BAD);
    due("counts(LOW)", x.counts(LOW), BAD);
    x.kind(0, 1);
    due("counts(8), held", x.counts(8), 1);
  }

  private static void draw() {
    NeedlePlate x = line();
    due("draw(0, 0)", x.draw(0, 0), 1);
    due("draw(5, 0)", x.draw(5, 0), 2);
    due("draw(5, 1)", x.draw(5, 1), 5);
    due("draw(5, 2)", x.draw(5, 2), NONE);
    due("draw(4, 0)", x.draw(4, 0), NONE);
    due("draw(HIGH, HIGH)", x.draw(HIGH, HIGH), NONE);
    due("draw(-1, 0)", x.draw(-1, 0), BAD);
    due("draw(5, -1)", x.draw(5, -1), BAD);
    x.kind(0, 1);
    x.tell(0, 1);
    due("draw(5, 0), held", x.draw(5, 0), 5);
    due("draw(5, 1), held", x.draw(5, 1), NONE);
  }

  private static void above() {
    NeedlePlate x = line();
    due("above(LOW)", x.above(LOW), 0);
    due("above(-1)", x.above(-1), 0);
    due("above(0)", x.above(0), 3);
    due("above(2)", x.above(2), 3);
    due("above(3)", x.above(3), 5);
    due("above(5)", x.above(5), 8);
    due("above(8)", x.above(8), NONE);
    due("above(HIGH)", x.above(HIGH), NONE);
    x.kind(0, 1);
    x.kind(1, 1);
    due("above(3), held", x.above(3), NONE);
  }

  private static void strip() {
    NeedlePlate x = new NeedlePlate();
    due("strip(0, 0, 0)", x.strip(0, 0, 0), 1);
    due("row(0, 0, 1)", x.row(0, 0, 1), INDEX);
    due("strip(3, 2, 4)", x.strip(3, 2, 4), 1);
    due("row(3, 3, 1)", x.row(3, 3, 1), 1);
    due("put(3, 2, 3, 0, 1)", x.put(3, 2, 3, 0, 1), 1);
    due("strip(3, 2, 5)", x.strip(3, 2, 5), BAD);
    due("strip(3, 2, -1)", x.strip(3, 2, -1), SIZE);
    due("strip(3, 2, LOW)", x.strip(3, 2, LOW), SIZE);
    due("strip(3, 3, -1)", x.strip(3, 3, -1), BAD);
    due("strip(3, -1, 1)", x.strip(3, -1, 1), BAD);
    due("strip(4, 0, -1)", x.strip(4, 0, -1), BAD);
    due("strip(-1, 0, 1)", x.strip(-1, 0, 1), BAD);
    due("item(3, 2, 3, 0), refused", x.item(3, 2, 3, 0), 1);
    due("strip(3, 2, 4)", x.strip(3, 2, 4), 1);
    due("put(3, 2, 3, 0, 1), missing", x.put(3, 2, 3, 0, 1), NULL);
    due("strip(1, 0, -1)", x.strip(1, 0, -1), SIZE);
    due("row(1, 0, 1), refused", x.row(1, 0, 1), NULL);
  }

  private static void row() {
    NeedlePlate x = new NeedlePlate();
    due("row(0, 0, 1)", x.row(0, 0, 1), NULL);
    due("row(0, 9, -1)", x.row(0, 9, -1), NULL);
    due("row(0, 0, 13)", x.row(0, 0, 13), BAD);
    due("row(4, 0, 1)", x.row(4, 0, 1), BAD);
    due("row(-1, 0, 1)", x.row(-1, 0, 1), BAD);
    x.strip(0, 2, 2);
    due("row(0, 2, 1)", x.row(0, 2, 1), INDEX);
    due("row(0, 2, -1)", x.row(0, 2, -1), INDEX);
    due("row(0, -1, 1)", x.row(0, -1, 1), INDEX);
    due("row(0, HIGH, 1)", x.row(0, HIGH, 1), INDEX);
    due("row(0, 1, -1)", x.row(0, 1, -1), SIZE);
    due("put(0, 2, 1, 0, 5), refused", x.put(0, 2, 1, 0, 5), NULL);
    due("row(0, 1, 12)", x.row(0, 1, 12), 1);
    due("put(0, 2, 1, 11, 5)", x.put(0, 2, 1, 11, 5), 1);
    due("put(0, 2, 1, 12, 5)", x.put(0, 2, 1, 12, 5), INDEX);
    due("row(0, 1, 12), new", x.row(0, 1, 12), 1);
    due("item(0, 2, 1, 11), new", x.item(0, 2, 1, 11), 0);
    x.put(0, 2, 1, 0, 6);
    due("row(0, 0, 12)", x.row(0, 0, 12), 1);
    due("item(0, 2, 1, 0), another ROW", x.item(0, 2, 1, 0), 6);
    due("row(0, 0, 0)", x.row(0, 0, 0), 1);
    due("put(0, 2, 0, 0, 5), none", x.put(0, 2, 0, 0, 5), INDEX);
  }

  private static void put() {
    NeedlePlate x = new NeedlePlate();
    due("put(0, 0, 0, 0, 1)", x.put(0, 0, 0, 0, 1), NULL);
    for (int sort = 0; sort < 3; sort++) {
      x.strip(sort, sort, 2);
      x.row(sort, 0, 2);
    }
    int[] values = {200, -129, 40000, -32769, HIGH, LOW};
    for (int v : values) {
      due("put(0, 0, 0, 1, " + v + ")", x.put(0, 0, 0, 1, v), 1);
      due("item(0, 0, 0, 1)", x.item(0, 0, 0, 1), (byte) v);
      due("put(1, 1, 0, 1, " + v + ")", x.put(1, 1, 0, 1, v), 1);
      due("item(1, 1, 0, 1)", x.item(1, 1, 0, 1), (short) v);
      due("put(2, 2, 0, 1, " + v + ")", x.put(2, 2, 0, 1, v), 1);
      due("item(2, 2, 0, 1)", x.item(2, 2, 0, 1), v);
    }
    due("item(0, 0, 0, 0)", x.item(0, 0, 0, 0), 0);
    // each finding ahead of all behind it
    due("put(4, 0, 9, 9, 1)", x.put(4, 0, 9, 9, 1), BAD);
    due("put(-1, 0, 0, 0, 1)", x.put(-1, 0, 0, 0, 1), BAD);
    due("put(0, 3, 0, 0, 1)", x.put(0, 3, 0, 0, 1), BAD);
    due("put(3, -1, 9, 9, 1)", x.put(3, -1, 9, 9, 1), BAD);
    due("put(3, 1, 9, 9, 1)", x.put(3, 1, 9, 9, 1), NULL);
    due("put(0, 1, 9, 9, 1)", x.put(0, 1, 9, 9, 1), CAST);
    due("put(0, 2, 1, 0, 1)", x.put(0, 2, 1, 0, 1), CAST);
    due("put(0, 0, 2, 9, 1)", x.put(0, 0, 2, 9, 1), INDEX);
    due("put(0, 0, -1, 9, 1)", x.put(0, 0, -1, 9, 1), INDEX);
    due("put(0, 0, 1, 9, 1)", x.put(0, 0, 1, 9, 1), NULL);
    due("put(0, 0, 0, 2, 1)", x.put(0, 0, 0, 2, 1), INDEX);
    due("put(0, 0, 0, -1, 1)", x.put(0, 0, 0, -1, 1), INDEX);
  }

  private static void refusedItem(NeedlePlate x, int strip, int sort, int r, int i, int reason) {
    String call = "item(" + strip + ", " + sort + ", " + r + ", " + i + ")";
    due(call, x.item(strip, sort, r, i), 0);
    due("status() behind " + call, x.status(), reason);
  }

  private static void item() {
    NeedlePlate x = new NeedlePlate();
    x.strip(0, 1, 2);
    x.row(0, 1, 3);
    x.put(0, 1, 1, 2, -7);
    due("item(0, 1, 1, 2)", x.item(0, 1, 1, 2), -7);
    due("status()", x.status(), 0);
    refusedItem(x, 4, 1, 1, 2, BAD);
    refusedItem(x, -1, 1, 1, 2, BAD);
    refusedItem(x, 1, 3, 1, 2, BAD);
    refusedItem(x, 1, -1, 1, 2, BAD);
    refusedItem(x, 1, 1, 1, 2, NULL);
    refusedItem(x, 0, 0, 9, 9, CAST);
    refusedItem(x, 0, 1, 2, 9, INDEX);
    refusedItem(x, 0, 1, 0, 9, NULL);
    refusedItem(x, 0, 1, 1, 3, INDEX);
    refusedItem(x, 0, 1, 1, LOW, INDEX);
    due("item(0, 1, 1, 0)", x.item(0, 1, 1, 0), 0);
    due("status()", x.status(), 0);
  }

  private static void copy() {
    NeedlePlate x = new NeedlePlate();
    x.strip(0, 2, 3);
    x.strip(1, 2, 1);
    x.strip(2, 1, 1);
    x.row(0, 0, 4);
    x.row(0, 1, 3);
    x.row(1, 0, 2);
    x.row(2, 0, 2);
    for (int i = 0; i < 4; i++) x.put(0, 2, 0, i, i + 1);
    due("copy(0, 0, 1, 1, 0, 0, 2)", x.copy(0, 0, 1, 1, 0, 0, 2), 2);
    due("item(1, 2, 0, 0)", x.item(1, 2, 0, 0), 2);
    due("item(1, 2, 0, 1)", x.item(1, 2, 0, 1), 3);
    due("copy(0, 0, 0, 0, 1, 0, 3)", x.copy(0, 0, 0, 0, 1, 0, 3), 3);
    due("item(0, 2, 1, 2)", x.item(0, 2, 1, 2), 3);
    due("copy over itself", x.copy(0, 0, 0, 0, 0, 1, 3), 3);
    int[] shifted = {1, 1, 2, 3};
    for (int i = 0; i < 4; i++) due("item(0, 2, 0, " + i + ")", x.item(0, 2, 0, i), shifted[i]);
    due("copy of none", x.copy(0, 0, 4, 1, 0, 2, 0), 0);
    copyRefused(x);
    for (int i = 0; i < 4; i++) due("item(0, 2, 0, " + i + ")", x.item(0, 2, 0, i), shifted[i]);
  }

  private static void copyRefused(NeedlePlate x) {
    due("first strip 4", x.copy(4, 9, 9, 3, 9, 9, -1), BAD);
    due("first strip -1", x.copy(-1, 0, 0, 0, 0, 0, 1), BAD);
    due("other strip 4", x.copy(0, 0, 0, 4, 0, 0, 1), BAD);
    due("other strip -1", x.copy(3, 0, 0, -1, 0, 0, 1), BAD);
    due("no first strip", x.copy(3, 9, 9, 0, 9, 9, -1), NULL);
    due("no other strip", x.copy(0, 9, 9, 3, 9, 9, -1), NULL);
    due("of two sorts", x.copy(0, 9, 9, 2, 9, 9, -1), CAST);
    due("no first row", x.copy(0, 3, 9, 0, 2, 9, -1), INDEX);
    due("no other row", x.copy(0, 2, 9, 0, 3, 9, -1), INDEX);
    due("first row -1", x.copy(0, -1, 0, 0, 0, 0, 1), INDEX);
    due("first row missing", x.copy(0, 2, 9, 0, 0, 9, -1), NULL);
    due("other row missing", x.copy(0, 0, 9, 0, 2, 9, -1), NULL);
    due("n below 0", x.copy(0, 0, 0, 0, 1, 0, -1), INDEX);
    due("first numbers not there", x.copy(0, 1, 1, 0, 0, 0, 3), INDEX);
    due("other numbers not there", x.copy(0, 0, 0, 0, 1, 0, 4), INDEX);
    due("i below 0", x.copy(0, 0, -1, 0, 1, 0, 1), INDEX);
    due("j below 0", x.copy(0, 0, 0, 0, 1, -1, 1), INDEX);
    due("i and n large", x.copy(0, 0, HIGH, 0, 1, 0, HIGH), INDEX);
    due("n large", x.copy(0, 0, 1, 0, 1, 1, HIGH), INDEX);
    due("n low", x.copy(0, 0, 0, 0, 1, 0, LOW), INDEX);
    due("none from behind the end", x.copy(0, 0, 5, 0, 1, 0, 0), INDEX);
    due("status()", x.status(), INDEX);
  }

  private static void read() {
    NeedlePlate x = new NeedlePlate();
    x.strip(0, 2, 2);
    x.row(0, 0, 4);
    int[] wants = {1000, -1000, 7, 1001};
    for (int i = 0; i < 4; i++) x.put(0, 2, 0, i, wants[i]);
    due("many()", x.many(), 512);
    due("read(0, 0, 9, 3)", x.read(0, 0, 9, 3), 3);
    due("joint(8, 4)", x.joint(8, 4), 1000);
    due("joint(9, 4)", x.joint(9, 4), 2000);
    due("joint(10, 4)", x.joint(10, 4), 0);
    due("joint(11, 4)", x.joint(11, 4), 1007);
    due("least()", x.least(), 0);
    due("many()", x.many(), 64);
    due("read(0, 0, 10, 3)", x.read(0, 0, 10, 3), BAD);
    due("read(0, 0, -1, 1)", x.read(0, 0, -1, 1), BAD);
    due("read(0, 0, 0, -1)", x.read(0, 0, 0, -1), BAD);
    due("read(0, 0, HIGH, HIGH)", x.read(0, 0, HIGH, HIGH), BAD);
    due("read(0, 0, LOW, LOW)", x.read(0, 0, LOW, LOW), BAD);
    due("read(4, 0, 0, 1)", x.read(4, 0, 0, 1), BAD);
    due("read(-1, 0, 0, 0)", x.read(-1, 0, 0, 0), BAD);
    due("read(1, 0, 0, 1)", x.read(1, 0, 0, 1), NULL);
    due("read(0, 2, 0, 1)", x.read(0, 2, 0, 1), INDEX);
    due("read(0, -1, 0, 1)", x.read(0, -1, 0, 1), INDEX);
    due("read(0, 1, 0, 1)", x.read(0, 1, 0, 1), NULL);
    due("about(7)", x.about(7), 1);
    readInOrder(x);
    due("read(1, 9, 12, 0)", x.read(1, 9, 12, 0), 0);
    due("status()", x.status(), 0);
    due("about(7)", x.about(7), 2);
    due("read(0, 0, 13, 0)", x.read(0, 0, 13, 0), BAD);
    readOfSorts(x);
  }

  /** The fourth number is no WANT, a fifth is not there. */
  private static void readInOrder(NeedlePlate x) {
    due("read(0, 0, 0, 4)", x.read(0, 0, 0, 4), BAD);
    due("status()", x.status(), BAD);
    due("read(0, 0, 0, 5)", x.read(0, 0, 0, 5), BAD);
    for (int j = 0; j < 4; j++) due("joint(" + j + ", 4), refused", x.joint(j, 4), 1000);
    x.put(0, 2, 0, 3, -1001);
    due("read(0, 0, 0, 4)", x.read(0, 0, 0, 4), BAD);
    x.put(0, 2, 0, 3, 5);
    due("read(0, 0, 0, 5)", x.read(0, 0, 0, 5), INDEX);
    for (int j = 0; j < 4; j++) due("joint(" + j + ", 4), refused", x.joint(j, 4), 1000);
  }

  private static void readOfSorts(NeedlePlate x) {
    x.strip(1, 0, 1);
    x.row(1, 0, 1);
    x.put(1, 0, 0, 0, 200);
    due("read() of BYTES", x.read(1, 0, 2, 1), 1);
    due("joint(2, 4)", x.joint(2, 4), 944);
    x.strip(1, 1, 1);
    x.row(1, 0, 1);
    x.put(1, 1, 0, 0, 65536 + 300);
    due("read() of SHORTS", x.read(1, 0, 2, 1), 1);
    due("joint(2, 4)", x.joint(2, 4), 1300);
  }

  private static void about() {
    NeedlePlate x = new NeedlePlate();
    x.plate(2, 5);
    x.kind(0, 4);
    x.kind(1, 4);
    x.let(1, true);
    x.kind(2, 1);
    x.kind(3, 2);
    x.want(9, -4);
    int[] told = {2, 5, 10, 13, 5, 2, 2, 6};
    for (int what = 0; what < 8; what++) due("about(" + what + ")", x.about(what), told[what]);
    due("about(8)", x.about(8), BAD);
    due("about(-1)", x.about(-1), BAD);
    due("about(LOW)", x.about(LOW), BAD);
  }

  private static void trace() {
    NeedlePlate x = new NeedlePlate();
    long[] points = {1, 10, 1, 1, 110};
    long[] worths = {1000, 1000, 12000, 100000, 1000};
    long sum = 0;
    for (int kind = 0; kind < 5; kind++) {
      x.kind(0, kind);
      x.point(0);
      sum += points[kind];
      due("trace() behind point() of KIND " + kind, x.trace(), sum);
      x.worth(0);
      sum += worths[kind];
      due("trace() behind worth() of KIND " + kind, x.trace(), sum);
    }
    x.let(0, true);
    x.point(0);
    sum += 101;
    due("trace() behind point(), let go", x.trace(), sum);
    x.worth(0);
    sum += 1000;
    // nothing else asks for the trace, nor does what is refused
    x.point(9);
    x.worth(-1);
    x.want(0, 4);
    x.strain();
    x.least();
    x.turn(0);
    x.arrange(3);
    x.one();
    x.needle(0, 4);
    x.joint(0, 5);
    x.undo();
    x.plate(2, 2);
    due("trace()", x.trace(), sum);
  }

  private static void status() {
    NeedlePlate x = new NeedlePlate();
    due("status()", x.status(), 0);
    x.strip(0, 0, 5);
    due("status() behind strip()", x.status(), BAD);
    x.strip(0, 0, 2);
    due("status() behind strip()", x.status(), 0);
    x.row(0, 0, -1);
    due("status() behind row()", x.status(), SIZE);
    // other calls leave it, refused or not
    x.kind(0, 1);
    x.kind(99, 1);
    x.undo();
    x.undo();
    x.plate(2, 3);
    due("status()", x.status(), SIZE);
    x.row(0, 0, 2);
    due("status() behind row()", x.status(), 0);
    x.put(0, 1, 0, 0, 0);
    due("status() behind put()", x.status(), CAST);
    x.put(0, 0, 0, 0, 0);
    due("status() behind put()", x.status(), 0);
    x.item(0, 0, 1, 0);
    due("status() behind item()", x.status(), NULL);
    x.item(0, 0, 0, 0);
    due("status() behind item()", x.status(), 0);
    x.copy(0, 0, 0, 0, 0, 1, 2);
    due("status() behind copy()", x.status(), INDEX);
    x.copy(0, 0, 0, 0, 0, 1, 1);
    due("status() behind copy()", x.status(), 0);
    x.read(3, 0, 0, 1);
    due("status() behind read()", x.status(), NULL);
    x.read(0, 0, 0, 2);
    due("status() behind read()", x.status(), 0);
  }
}
