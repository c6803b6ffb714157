import java.util.function.Consumer;
import java.util.function.ToIntFunction;

/**
 * The last sentence of the Terms: a call that is refused changes nothing but status(), and that one only where it
 * is a call on strips. Each is made on one of two objects that had the same calls; all that can be seen of both,
 * down to the last undo(), is then the same. So it is for calls that only tell.
 */
public final class RefusalTest {
  private static final int BAD = Check.BAD, STATE = Check.STATE, NULL = Check.NULL, INDEX = Check.INDEX;
  private static final int CAST = Check.CAST, SIZE = Check.SIZE;
  private static final int BAD_AMONG_NUMBERS = Check.BAD_AMONG_NUMBERS, LOW = Check.LOW, HIGH = Check.HIGH;
  private static final int BYTES = 0, SHORTS = 1, INTS = 2;

  private static final int NEEDLES = 9, JOINTS = 12, FIELDS = 5;
  private static final int MOST_UNDONE = 30;

  public static void main(String[] args) {
    Check.says("Terms", "Refused, and nothing changes but status(), the first one here: BAD (a number is not as told, or there is no such thing), STATE (as told), FULL; then FINDINGS.");
    refusedOnThePlate();
    refusedOfWhatIsSeen();
    refusedOnStrips();
    refusedCopyAndRead();
    undoOfNone();
    Check.says("Terms", "Numbers in brackets come to THE TRACE as often as a body is asked by point() and worth().");
    onlyTold();
    Check.end();
  }

  // ---- the objects

  /** Strip 0 is of INTS: four numbers, MISSING, none; 1 of BYTES, two numbers; 2 has no ROWS; 3 is none. */
  private static void makeStrips(NeedlePlate x) {
    x.strip(0, INTS, 3);
    x.row(0, 0, 4);
    x.put(0, INTS, 0, 0, 5);
    x.put(0, INTS, 0, 1, -6);
    x.put(0, INTS, 0, 2, 1001);
    x.row(0, 2, 0);
    x.strip(1, BYTES, 1);
    x.row(1, 0, 2);
    x.put(1, BYTES, 0, 1, 9);
    x.strip(2, INTS, 0);
  }

  /** A few changes of each sort; needle 0 is an EDGE that is LET GO, 2 is HELD. */
  private static NeedlePlate busy() {
    NeedlePlate x = new NeedlePlate();
    makeStrips(x);
    x.point(0);
    x.kind(0, 4);
    x.let(0, true);
    x.kind(2, 1);
    x.tell(2, 1);
    x.want(7, -4);
    x.arrange(0b101010101);
    return x;
  }

  /** As many changes as can be undone, and five more. */
  private static NeedlePlate full() {
    NeedlePlate x = new NeedlePlate();
    makeStrips(x);
    x.kind(2, 1);
    for (int v = 1; v <= 25; v++) x.want(7, v);
    return x;
  }

  /** The last call on strips is refused by something, or is not, so that a change of status() can be seen. */
  private static void leaveStatus(NeedlePlate x, boolean refused) {
    if (refused) x.strip(3, BYTES, -1);
    else x.item(0, INTS, 0, 0);
  }

  // ---- what can be seen of them

  private static void plateNow(NeedlePlate x, StringBuilder seen) {
    for (int what = 0; what < 8; what++) seen.append(x.about(what)).append(' ');
    seen.append("| ").append(x.trace()).append(" | ");
    for (int j = 0; j < JOINTS; j++) seen.append(x.joint(j, 5)).append(x.joint(j, 6)).append(' ');
    seen.append("| ").append(x.strain()).append(' ').append(x.least()).append(' ').append(x.many()).append(' ').append(x.best(0));
  }

  private static void settingNow(NeedlePlate x, StringBuilder seen) {
    seen.append("\n  ");
    for (int i = 0; i < NEEDLES; i++) {
      for (int what = 0; what < 4; what++) seen.append(x.needle(i, what));
      seen.append(' ');
    }
    for (int j = 0; j < JOINTS; j++) seen.append(x.joint(j, 4)).append(' ');
  }

  private static void stripsNow(NeedlePlate x, StringBuilder seen) {
    int[][] places = {
      {0, INTS, 0, 0}, {0, INTS, 0, 1}, {0, INTS, 0, 2}, {0, INTS, 0, 3}, {0, INTS, 0, 4}, {0, INTS, 1, 0},
      {0, INTS, 2, 0}, {0, INTS, 3, 0}, {1, BYTES, 0, 0}, {1, BYTES, 0, 1}, {1, BYTES, 0, 2}, {1, BYTES, 1, 0},
      {2, INTS, 0, 0}, {3, INTS, 0, 0},
    };
    seen.append("\n  ");
    for (int[] p : places) seen.append(x.item(p[0], p[1], p[2], p[3])).append(' ').append(x.status()).append(", ");
  }

  private static String allOf(NeedlePlate x) {
    StringBuilder seen = new StringBuilder();
    plateNow(x, seen);
    settingNow(x, seen);
    stripsNow(x, seen);
    for (int k = 0; k < MOST_UNDONE && x.about(7) > 0; k++) {
      seen.append("\n  ").append(x.undo());
      settingNow(x, seen);
    }
    return seen.toString();
  }

  /** With one WANT alone for each undo(), as an object has 512 calls. */
  private static String shortOf(NeedlePlate x) {
    StringBuilder seen = new StringBuilder();
    plateNow(x, seen);
    settingNow(x, seen);
    stripsNow(x, seen);
    for (int k = 0; k < MOST_UNDONE && x.about(7) > 0; k++) {
      seen.append("\n  ").append(x.undo()).append(' ').append(x.joint(7, 4));
    }
    return seen.toString();
  }

  // ---- the comparisons

  private static void leavesAll(String call, ToIntFunction<NeedlePlate> made, int answer, boolean before, int status) {
    NeedlePlate x = busy();
    leaveStatus(x, before);
    Check.due(call, made.applyAsInt(x), answer);
    Check.due("status() behind " + call, x.status(), status);
    Check.dueText("what is seen behind " + call, allOf(x), allOf(busy()));
    NeedlePlate y = full();
    leaveStatus(y, before);
    Check.due(call + " when full", made.applyAsInt(y), answer);
    Check.due("status() when full behind " + call, y.status(), status);
    Check.dueText("what is seen when full behind " + call, shortOf(y), shortOf(full()));
  }

  private static void refused(String call, ToIntFunction<NeedlePlate> made, int answer) {
    leavesAll(call, made, answer, false, 0);
    leavesAll(call, made, answer, true, SIZE);
  }

  private static void refusedStrip(String call, ToIntFunction<NeedlePlate> made, int answer, int reason) {
    leavesAll(call, made, answer, false, reason);
    leavesAll(call, made, answer, true, reason);
  }

  private static void refusedStrip(String call, ToIntFunction<NeedlePlate> made, int reason) {
    refusedStrip(call, made, reason, reason);
  }

  // ---- the calls

  private static void refusedOnThePlate() {
    refused("plate(0, 3)", x -> x.plate(0, 3), BAD);
    refused("plate(3, 0)", x -> x.plate(3, 0), BAD);
    refused("plate(7, 1)", x -> x.plate(7, 1), BAD);
    refused("plate(1, 7)", x -> x.plate(1, 7), BAD);
    refused("plate(4, 4)", x -> x.plate(4, 4), BAD);
    refused("plate(65536, 65536)", x -> x.plate(65536, 65536), BAD);
    refused("kind(9, 0)", x -> x.kind(NEEDLES, 0), BAD);
    refused("kind(-1, 0)", x -> x.kind(-1, 0), BAD);
    refused("kind(0, 5)", x -> x.kind(0, 5), BAD);
    refused("kind(0, -1)", x -> x.kind(0, -1), BAD);
    refused("kind(4, 4)", x -> x.kind(4, 4), BAD);
    refused("tell(9, 1)", x -> x.tell(NEEDLES, 1), BAD);
    refused("tell(-1, 1)", x -> x.tell(-1, 1), BAD);
    refused("tell(0, 2)", x -> x.tell(0, 2), BAD);
    refused("tell(0, -1)", x -> x.tell(0, -1), BAD);
    refused("let(9, true)", x -> x.let(NEEDLES, true), BAD);
    refused("let(-1, true)", x -> x.let(-1, true), BAD);
    refused("let(1, true), no EDGE", x -> x.let(1, true), BAD);
    refused("let(2, true), HELD", x -> x.let(2, true), BAD);
    refused("turn(9)", x -> x.turn(NEEDLES), BAD_AMONG_NUMBERS);
    refused("turn(-1)", x -> x.turn(-1), BAD_AMONG_NUMBERS);
    refused("turn(32)", x -> x.turn(32), BAD_AMONG_NUMBERS);
    refused("gauge(9)", x -> x.gauge(NEEDLES), BAD_AMONG_NUMBERS);
    refused("gauge(-1)", x -> x.gauge(-1), BAD_AMONG_NUMBERS);
    refused("want(12, 1)", x -> x.want(JOINTS, 1), BAD_AMONG_NUMBERS);
    refused("want(-1, 1)", x -> x.want(-1, 1), BAD_AMONG_NUMBERS);
    refused("want(0, 1001)", x -> x.want(0, 1001), BAD_AMONG_NUMBERS);
    refused("want(0, -1001)", x -> x.want(0, -1001), BAD_AMONG_NUMBERS);
    refused("arrange(512)", x -> x.arrange(512), BAD);
    refused("arrange(-1)", x -> x.arrange(-1), BAD);
  }

  private static void refusedOfWhatIsSeen() {
    refused("point(9)", x -> x.point(NEEDLES), BAD);
    refused("point(-1)", x -> x.point(-1), BAD);
    refused("worth(9)", x -> x.worth(NEEDLES), BAD);
    refused("worth(-1)", x -> x.worth(-1), BAD);
    refused("needle(9, 0)", x -> x.needle(NEEDLES, 0), BAD);
    refused("needle(0, 5)", x -> x.needle(0, 5), BAD);
    refused("joint(12, 0)", x -> x.joint(JOINTS, 0), BAD);
    refused("joint(0, 7)", x -> x.joint(0, 7), BAD);
    refused("troubled(5)", x -> x.troubled(FIELDS), BAD);
    refused("apart(5, 0)", x -> x.apart(FIELDS, 0), BAD);
    refused("apart(0, -1)", x -> x.apart(0, -1), BAD);
    refused("paired()", NeedlePlate::paired, STATE);
    refused("of(512)", x -> x.of(512), BAD);
    refused("best(-1)", x -> x.best(-1), BAD);
    refused("sure(12)", x -> x.sure(JOINTS), BAD_AMONG_NUMBERS);
    refused("counts(-1)", x -> x.counts(-1), BAD);
    refused("draw(-1, 0)", x -> x.draw(-1, 0), BAD);
    refused("draw(0, -1)", x -> x.draw(0, -1), BAD);
    refused("about(8)", x -> x.about(8), BAD);
  }

  private static void refusedOnStrips() {
    refusedStrip("strip(4, 0, 1)", x -> x.strip(4, 0, 1), BAD);
    refusedStrip("strip(-1, 0, 1)", x -> x.strip(-1, 0, 1), BAD);
    refusedStrip("strip(0, 3, 1)", x -> x.strip(0, 3, 1), BAD);
    refusedStrip("strip(0, 0, 5)", x -> x.strip(0, 0, 5), BAD);
    refusedStrip("strip(0, 0, -1)", x -> x.strip(0, 0, -1), SIZE);
    refusedStrip("strip(3, 2, -1)", x -> x.strip(3, INTS, -1), SIZE);
    refusedStrip("row(4, 0, 1)", x -> x.row(4, 0, 1), BAD);
    refusedStrip("row(0, 0, 13)", x -> x.row(0, 0, 13), BAD);
    refusedStrip("row(3, 0, 1)", x -> x.row(3, 0, 1), NULL);
    refusedStrip("row(0, 3, 1)", x -> x.row(0, 3, 1), INDEX);
    refusedStrip("row(2, 0, 1)", x -> x.row(2, 0, 1), INDEX);
    refusedStrip("row(0, 0, -1)", x -> x.row(0, 0, -1), SIZE);
    refusedStrip("row(0, 1, -1)", x -> x.row(0, 1, -1), SIZE);
    refusedStrip("put(4, 2, 0, 0, 77)", x -> x.put(4, INTS, 0, 0, 77), BAD);
    refusedStrip("put(0, 3, 0, 0, 77)", x -> x.put(0, 3, 0, 0, 77), BAD);
    refusedStrip("put(3, 2, 0, 0, 77)", x -> x.put(3, INTS, 0, 0, 77), NULL);
    refusedStrip("put(0, 1, 0, 0, 77)", x -> x.put(0, SHORTS, 0, 0, 77), CAST);
    refusedStrip("put(0, 2, 3, 0, 77)", x -> x.put(0, INTS, 3, 0, 77), INDEX);
    refusedStrip("put(0, 2, 1, 0, 77)", x -> x.put(0, INTS, 1, 0, 77), NULL);
    refusedStrip("put(0, 2, 0, 4, 77)", x -> x.put(0, INTS, 0, 4, 77), INDEX);
    refusedStrip("put(0, 2, 0, -1, 77)", x -> x.put(0, INTS, 0, -1, 77), INDEX);
    refusedStrip("item(4, 2, 0, 0)", x -> x.item(4, INTS, 0, 0), 0, BAD);
    refusedStrip("item(3, 2, 0, 0)", x -> x.item(3, INTS, 0, 0), 0, NULL);
    refusedStrip("item(0, 0, 0, 0)", x -> x.item(0, BYTES, 0, 0), 0, CAST);
    refusedStrip("item(0, 2, 0, 4)", x -> x.item(0, INTS, 0, 4), 0, INDEX);
  }

  private static void refusedCopyAndRead() {
    refusedStrip("copy(4, ..)", x -> x.copy(4, 0, 0, 0, 0, 0, 1), BAD);
    refusedStrip("copy(.., 4, ..)", x -> x.copy(0, 0, 0, 4, 0, 0, 1), BAD);
    refusedStrip("copy(3, ..)", x -> x.copy(3, 0, 0, 0, 0, 0, 1), NULL);
    refusedStrip("copy(.., 3, ..)", x -> x.copy(0, 0, 0, 3, 0, 0, 1), NULL);
    refusedStrip("copy() of two SORTS", x -> x.copy(0, 0, 0, 1, 0, 0, 1), CAST);
    refusedStrip("copy() to no ROW", x -> x.copy(0, 0, 0, 2, 0, 0, 1), INDEX);
    refusedStrip("copy() to a MISSING", x -> x.copy(0, 0, 0, 0, 1, 0, 1), NULL);
    refusedStrip("copy() of one too many", x -> x.copy(0, 0, 0, 0, 0, 1, 4), INDEX);
    refusedStrip("copy() of n below 0", x -> x.copy(0, 0, 1, 0, 0, 0, -1), INDEX);
    refusedStrip("copy() of HIGH", x -> x.copy(0, 0, 1, 0, 0, 0, HIGH), INDEX);
    refusedStrip("read(4, 0, 0, 1)", x -> x.read(4, 0, 0, 1), BAD);
    refusedStrip("read(0, 0, 11, 2)", x -> x.read(0, 0, 11, 2), BAD);
    refusedStrip("read(0, 0, 13, 0)", x -> x.read(0, 0, 13, 0), BAD);
    refusedStrip("read(0, 0, 0, -1)", x -> x.read(0, 0, 0, -1), BAD);
    refusedStrip("read(0, 0, LOW, 1)", x -> x.read(0, 0, LOW, 1), BAD);
    refusedStrip("read(3, 0, 0, 1)", x -> x.read(3, 0, 0, 1), NULL);
    refusedStrip("read(0, 3, 0, 1)", x -> x.read(0, 3, 0, 1), INDEX);
    refusedStrip("read(0, 1, 0, 1)", x -> x.read(0, 1, 0, 1), NULL);
    refusedStrip("read(0, 2, 0, 1)", x -> x.read(0, 2, 0, 1), INDEX);
    refusedStrip("read(0, 0, 0, 3), no WANT", x -> x.read(0, 0, 0, 3), BAD);
    refusedStrip("read(1, 0, 0, 3), a third is not there", x -> x.read(1, 0, 0, 3), INDEX);
  }

  private static void undoOfNone() {
    for (boolean before : new boolean[] {false, true}) {
      NeedlePlate x = new NeedlePlate();
      makeStrips(x);
      leaveStatus(x, before);
      Check.due("undo()", x.undo(), STATE);
      Check.due("status() behind undo()", x.status(), before ? SIZE : 0);
      NeedlePlate y = new NeedlePlate();
      makeStrips(y);
      Check.dueText("what is seen behind undo()", allOf(x), allOf(y));
    }
  }

  /** These change nothing at all, answered or not. */
  private static void onlyTold() {
    Consumer<NeedlePlate> tellings = x -> {
      x.needle(0, 0);
      x.joint(0, 5);
      x.strain();
      x.troubled(0);
      x.apart(0, 1);
      x.paired();
      x.of(77);
      x.least();
      x.many();
      x.best(3);
      x.sure(0);
      x.counts(4);
      x.draw(4, 1);
      x.above(0);
      x.about(6);
      x.trace();
      x.status();
    };
    NeedlePlate x = busy();
    leaveStatus(x, true);
    tellings.accept(x);
    Check.due("status() behind all that tell", x.status(), SIZE);
    Check.dueText("what is seen behind all that tell", allOf(x), allOf(busy()));
    NeedlePlate y = full();
    tellings.accept(y);
    Check.dueText("what is seen when full behind all that tell", shortOf(y), shortOf(full()));
  }
}
