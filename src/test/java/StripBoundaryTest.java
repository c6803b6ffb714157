/** The strips, sentence by sentence: what the promises 28 to 33 and 36 say of findings, their order and ends. */
public final class StripBoundaryTest {
  private static final int BAD = Check.BAD, NULL = Check.NULL, INDEX = Check.INDEX, CAST = Check.CAST, SIZE = Check.SIZE;
  private static final int LOW = Check.LOW, HIGH = Check.HIGH;
  private static final int BYTES = 0, SHORTS = 1, INTS = 2;

  public static void main(String[] args) {
    strip();
    stripAnew();
    row();
    rowAnew();
    put();
    putAsJavaCasts();
    putRefused();
    item();
    copy();
    copyOverItself();
    copyRefused();
    copyOfNone();
    read();
    readRefused();
    readInOrder();
    readOfNone();
    status();
    Check.end();
  }

  private static void says(String where, String words) { Check.says(where, words); }
  private static void due(String call, long got, long want) { Check.due(call, got, want); }

  private static void numbers(NeedlePlate x, int strip, int sort, int r, int... values) {
    for (int i = 0; i < values.length; i++) {
      due("item(" + strip + ", " + sort + ", " + r + ", " + i + ")", x.item(strip, sort, r, i), values[i]);
      due("status()", x.status(), 0);
    }
    x.item(strip, sort, r, values.length);
    due("status() behind the last number", x.status(), INDEX);
  }

  private static void fill(NeedlePlate x, int strip, int sort, int r, int... values) {
    due("row()", x.row(strip, r, values.length), 1);
    for (int i = 0; i < values.length; i++) due("put()", x.put(strip, sort, r, i, values[i]), 1);
  }

  /** Refused, and so does status() say. */
  private static void refused(NeedlePlate x, String call, int got, int reason) {
    due(call, got, reason);
    due("status() behind " + call, x.status(), reason);
  }

  /** Strip 0 is of three INTS: five numbers, three, MISSING; 1 of INTS, one of two; 2 of SHORTS; 3 is none. */
  private static NeedlePlate three() {
    NeedlePlate x = new NeedlePlate();
    x.strip(0, INTS, 3);
    fill(x, 0, INTS, 0, 1, 2, 3, 4, 5);
    fill(x, 0, INTS, 1, 6, 7, 8);
    x.strip(1, INTS, 1);
    fill(x, 1, INTS, 0, 9, 10);
    x.strip(2, SHORTS, 1);
    fill(x, 2, SHORTS, 0, 11, 12);
    return x;
  }

  private static void threeIsAsMade(NeedlePlate x) {
    numbers(x, 0, INTS, 0, 1, 2, 3, 4, 5);
    numbers(x, 0, INTS, 1, 6, 7, 8);
    numbers(x, 1, INTS, 0, 9, 10);
    numbers(x, 2, SHORTS, 0, 11, 12);
  }

  private static void strip() {
    says("Terms", "STRIPS (4 at most at 0 .. 3) are 4 ROWS at most, of a SORT: 0 BYTES, 1 SHORTS, 2 INTS");
    NeedlePlate x = new NeedlePlate();
    Check.range("strip(_, 0, 1)", v -> x.strip(v, 0, 1), 0, 3, BAD);
    Check.range("strip(0, _, 1)", v -> x.strip(0, v, 1), 0, 2, BAD);
    for (int n = 0; n <= 4; n++) due("strip(0, 0, " + n + ")", x.strip(0, 0, n), 1);
    for (int n : new int[] {5, 6, 256, 65536, HIGH}) refused(x, "strip(0, 0, " + n + ")", x.strip(0, 0, n), BAD);
    says("promise 28", "A STRIP gets n (4 at most) ROWS of a SORT, all MISSING: 1. BAD; SIZE.");
    for (int n : new int[] {-1, -2, -252, LOW}) refused(x, "strip(0, 0, " + n + ")", x.strip(0, 0, n), SIZE);
    refused(x, "strip(4, 0, -1)", x.strip(4, 0, -1), BAD);
    refused(x, "strip(-1, 0, -1)", x.strip(-1, 0, -1), BAD);
    refused(x, "strip(0, 3, -1)", x.strip(0, 3, -1), BAD);
    refused(x, "strip(0, -1, -1)", x.strip(0, -1, -1), BAD);
  }

  private static void stripAnew() {
    says("promise 28", "A STRIP gets n (4 at most) ROWS of a SORT, all MISSING: 1.");
    NeedlePlate x = new NeedlePlate();
    due("strip(0, 2, 4)", x.strip(0, INTS, 4), 1);
    for (int r = 0; r < 4; r++) refused(x, "put() in ROW " + r, x.put(0, INTS, r, 0, 1), NULL);
    refused(x, "put() in ROW 4", x.put(0, INTS, 4, 0, 1), INDEX);
    for (int r = 0; r < 4; r++) fill(x, 0, INTS, r, r + 1);
    due("strip(0, 2, 4), anew", x.strip(0, INTS, 4), 1);
    for (int r = 0; r < 4; r++) refused(x, "put() in ROW " + r, x.put(0, INTS, r, 0, 1), NULL);
    due("strip(0, 1, 2), of another SORT", x.strip(0, SHORTS, 2), 1);
    refused(x, "put(0, 2, 0, 0, 1)", x.put(0, INTS, 0, 0, 1), CAST);
    refused(x, "put(0, 1, 1, 0, 1)", x.put(0, SHORTS, 1, 0, 1), NULL);
    refused(x, "put(0, 1, 2, 0, 1)", x.put(0, SHORTS, 2, 0, 1), INDEX);
    due("strip(0, 2, 4), larger", x.strip(0, INTS, 4), 1);
    refused(x, "put(0, 2, 3, 0, 1)", x.put(0, INTS, 3, 0, 1), NULL);
    due("strip(0, 0, 0), no ROWS", x.strip(0, BYTES, 0), 1);
    refused(x, "row(0, 0, 1)", x.row(0, 0, 1), INDEX);
    refused(x, "put(0, 1, 0, 0, 1), another SORT", x.put(0, SHORTS, 0, 0, 1), CAST);
    refused(x, "put(0, 0, 0, 0, 1)", x.put(0, BYTES, 0, 0, 1), INDEX);
    for (int s = 1; s < 4; s++) refused(x, "row(" + s + ", 0, 1)", x.row(s, 0, 1), NULL);
  }

  private static void row() {
    says("promise 29", "A ROW becomes a new one of n (12 at most) numbers: 1. BAD; NULL; INDEX; SIZE (the last of these).");
    NeedlePlate x = new NeedlePlate();
    refused(x, "row(0, 0, 1)", x.row(0, 0, 1), NULL);
    refused(x, "row(3, 9, -1)", x.row(3, 9, -1), NULL);
    refused(x, "row(3, 0, 13)", x.row(3, 0, 13), BAD);
    for (int s = 0; s < 4; s++) x.strip(s, s % 3, 4);
    Check.range("row(_, 0, 1)", v -> x.row(v, 0, 1), 0, 3, BAD);
    Check.range("row(0, _, 1)", v -> x.row(0, v, 1), 0, 3, INDEX);
    for (int n = 0; n <= 12; n++) due("row(0, 0, " + n + ")", x.row(0, 0, n), 1);
    for (int n : new int[] {13, 14, 256, 65536, HIGH}) refused(x, "row(0, 0, " + n + ")", x.row(0, 0, n), BAD);
    for (int n : new int[] {-1, -2, -244, LOW}) refused(x, "row(0, 0, " + n + ")", x.row(0, 0, n), SIZE);
    refused(x, "row(4, 9, -1)", x.row(4, 9, -1), BAD);
    refused(x, "row(0, 4, 13)", x.row(0, 4, 13), BAD);
    refused(x, "row(0, 4, -1)", x.row(0, 4, -1), INDEX);
    refused(x, "row(0, -1, -1)", x.row(0, -1, -1), INDEX);
    refused(x, "row(0, 3, -1)", x.row(0, 3, -1), SIZE);
  }

  private static void rowAnew() {
    says("Terms", "a ROW may be MISSING, has up to 12 numbers, 0 at first");
    NeedlePlate x = new NeedlePlate();
    x.strip(3, INTS, 4);
    for (int r = 0; r < 4; r++) {
      due("row(3, " + r + ", 12)", x.row(3, r, 12), 1);
      numbers(x, 3, INTS, r, 0, 0, 0, 0, 0, 0, 0, 0, 0, 0, 0, 0);
    }
    says("promise 29", "A ROW becomes a new one of n (12 at most) numbers: 1.");
    fill(x, 3, INTS, 1, 1, 2, 3, 4, 5, 6, 7, 8, 9, 10, 11, 12);
    numbers(x, 3, INTS, 0, 0, 0, 0, 0, 0, 0, 0, 0, 0, 0, 0, 0);
    numbers(x, 3, INTS, 2, 0, 0, 0, 0, 0, 0, 0, 0, 0, 0, 0, 0);
    due("row(3, 1, 2)", x.row(3, 1, 2), 1);
    numbers(x, 3, INTS, 1, 0, 0);
    due("row(3, 1, 4), larger", x.row(3, 1, 4), 1);
    numbers(x, 3, INTS, 1, 0, 0, 0, 0);
    due("row(3, 1, 0), empty", x.row(3, 1, 0), 1);
    numbers(x, 3, INTS, 1);
    refused(x, "put() in a ROW of none", x.put(3, INTS, 1, 0, 1), INDEX);
  }

  private static void put() {
    says("promise 30", "A number of a ROW becomes v, as Java casts it, taken as of a SORT: 1.");
    for (int sort = 0; sort < 3; sort++) {
      NeedlePlate x = new NeedlePlate();
      x.strip(3, sort, 4);
      fill(x, 3, sort, 3, 1, 2, 3, 4, 5, 6, 7, 8, 9, 10, 11, 12);
      x.row(3, 0, 12);
      due("put(), the last number", x.put(3, sort, 3, 11, -1), 1);
      due("put(), the first number", x.put(3, sort, 3, 0, -2), 1);
      numbers(x, 3, sort, 3, -2, 2, 3, 4, 5, 6, 7, 8, 9, 10, 11, -1);
      numbers(x, 3, sort, 0, 0, 0, 0, 0, 0, 0, 0, 0, 0, 0, 0, 0);
    }
  }

  private static void putAsJavaCasts() {
    says("promise 30", "as Java casts it, taken as of a SORT");
    // what is put, and what it is as one of BYTES, SHORTS, INTS
    int[][] cast = {
      {127, 127, 127, 127}, {128, -128, 128, 128}, {-128, -128, -128, -128}, {-129, 127, -129, -129},
      {255, -1, 255, 255}, {256, 0, 256, 256}, {32767, -1, 32767, 32767}, {32768, 0, -32768, 32768},
      {-32768, 0, -32768, -32768}, {-32769, -1, 32767, -32769}, {65535, -1, -1, 65535}, {65536, 0, 0, 65536},
      {HIGH, -1, -1, HIGH}, {LOW, 0, 0, LOW}, {LOW + 1, 1, 1, LOW + 1}, {-1, -1, -1, -1}, {0, 0, 0, 0},
    };
    for (int sort = 0; sort < 3; sort++) {
      NeedlePlate x = new NeedlePlate();
      x.strip(0, sort, 1);
      x.row(0, 0, 1);
      for (int[] c : cast) {
        due("put(0, " + sort + ", 0, 0, " + c[0] + ")", x.put(0, sort, 0, 0, c[0]), 1);
        due("item(0, " + sort + ", 0, 0)", x.item(0, sort, 0, 0), c[1 + sort]);
      }
    }
  }

  /** Each finding stands ahead of all that are behind it: from the left on, one more argument is good each time. */
  private static void putRefused() {
    says("promise 30", "BAD; NULL (the STRIP); CAST; INDEX (the ROW); NULL (the ROW is MISSING); INDEX (the number).");
    NeedlePlate x = three();
    refused(x, "put(4, 3, 9, 9, 0)", x.put(4, 3, 9, 9, 0), BAD);
    refused(x, "put(-1, 2, 9, 9, 0)", x.put(-1, INTS, 9, 9, 0), BAD);
    refused(x, "put(3, 3, 9, 9, 0)", x.put(3, 3, 9, 9, 0), BAD);
    refused(x, "put(3, -1, 9, 9, 0)", x.put(3, -1, 9, 9, 0), BAD);
    for (int sort = 0; sort < 3; sort++) refused(x, "put(3, " + sort + ", 9, 9, 0)", x.put(3, sort, 9, 9, 0), NULL);
    refused(x, "put(0, 0, 9, 9, 0)", x.put(0, BYTES, 9, 9, 0), CAST);
    refused(x, "put(0, 1, 2, 9, 0)", x.put(0, SHORTS, 2, 9, 0), CAST);
    refused(x, "put(2, 2, 0, 0, 0)", x.put(2, INTS, 0, 0, 0), CAST);
    refused(x, "put(0, 2, 3, 9, 0)", x.put(0, INTS, 3, 9, 0), INDEX);
    refused(x, "put(0, 2, -1, 9, 0)", x.put(0, INTS, -1, 9, 0), INDEX);
    refused(x, "put(0, 2, 2, 9, 0)", x.put(0, INTS, 2, 9, 0), NULL);
    refused(x, "put(0, 2, 2, -1, 0)", x.put(0, INTS, 2, -1, 0), NULL);
    refused(x, "put(0, 2, 0, 5, 0)", x.put(0, INTS, 0, 5, 0), INDEX);
    refused(x, "put(0, 2, 1, 3, 0)", x.put(0, INTS, 1, 3, 0), INDEX);
    refused(x, "put(0, 2, 1, -1, 0)", x.put(0, INTS, 1, -1, 0), INDEX);
    threeIsAsMade(x);
    NeedlePlate y = three();
    Check.range("put(_, 2, 0, 0, 1)", v -> y.put(v, INTS, 0, 0, 1), 0, 3, BAD);
    Check.range("put(0, _, 0, 0, 1)", v -> y.put(0, v, 0, 0, 1), 0, 2, BAD);
    Check.range("put(0, 2, _, 0, 1)", v -> y.put(0, INTS, v, 0, 1), 0, 2, INDEX);
    Check.range("put(0, 2, 0, _, 1)", v -> y.put(0, INTS, 0, v, 1), 0, 4, INDEX);
  }

  private static int statusOfItem(NeedlePlate x, int strip, int sort, int r, int i) {
    int answer = x.item(strip, sort, r, i);
    int status = x.status();
    if (status != 0) due("item(), refused by " + status, answer, 0);
    return status;
  }

  private static void item() {
    says("promise 31", "The number of a ROW, taken as of a SORT. 0, with status(): refused as put().");
    NeedlePlate x = three();
    due("BAD ahead of all", statusOfItem(x, 4, 3, 9, 9), BAD);
    due("BAD, the SORT", statusOfItem(x, 3, 3, 9, 9), BAD);
    due("NULL, the STRIP", statusOfItem(x, 3, INTS, 9, 9), NULL);
    due("CAST", statusOfItem(x, 0, BYTES, 9, 9), CAST);
    due("CAST", statusOfItem(x, 2, INTS, 0, 0), CAST);
    due("INDEX, the ROW", statusOfItem(x, 0, INTS, 3, 9), INDEX);
    due("INDEX, the ROW", statusOfItem(x, 0, INTS, -1, 9), INDEX);
    due("NULL, the ROW is MISSING", statusOfItem(x, 0, INTS, 2, 9), NULL);
    due("INDEX, the number", statusOfItem(x, 0, INTS, 1, 3), INDEX);
    due("INDEX, the number", statusOfItem(x, 0, INTS, 1, -1), INDEX);
    due("item(0, 2, 1, 2)", x.item(0, INTS, 1, 2), 8);
    due("status()", x.status(), 0);
    due("put(0, 2, 1, 2, 0)", x.put(0, INTS, 1, 2, 0), 1);
    x.item(0, INTS, 1, 3);
    due("item() that is 0 and not refused", x.item(0, INTS, 1, 2), 0);
    due("status()", x.status(), 0);
    x.put(0, INTS, 1, 2, BAD);
    due("item() that is -1 and not refused", x.item(0, INTS, 1, 2), -1);
    due("status()", x.status(), 0);
    NeedlePlate y = three();
    Check.range("item(_, 2, 0, 0)", v -> statusOfItem(y, v, INTS, 0, 0), 0, 3, BAD);
    Check.range("item(0, _, 0, 0)", v -> statusOfItem(y, 0, v, 0, 0), 0, 2, BAD);
    Check.range("item(0, 2, _, 0)", v -> statusOfItem(y, 0, INTS, v, 0), 0, 2, INDEX);
    Check.range("item(0, 2, 0, _)", v -> statusOfItem(y, 0, INTS, 0, v), 0, 4, INDEX);
  }

  private static void copy() {
    says("promise 32", "n numbers of a ROW, from i on, come to a ROW of another STRIP (or the same), from j on: n.");
    NeedlePlate x = three();
    due("copy() to the last numbers", x.copy(0, 0, 3, 1, 0, 0, 2), 2);
    numbers(x, 1, INTS, 0, 4, 5);
    numbers(x, 0, INTS, 0, 1, 2, 3, 4, 5);
    due("copy() of a whole ROW", x.copy(0, 1, 0, 0, 0, 2, 3), 3);
    numbers(x, 0, INTS, 0, 1, 2, 6, 7, 8);
    numbers(x, 0, INTS, 1, 6, 7, 8);
    due("copy() of one", x.copy(1, 0, 1, 0, 1, 2, 1), 1);
    numbers(x, 0, INTS, 1, 6, 7, 5);
    due("copy() onto itself", x.copy(0, 0, 0, 0, 0, 0, 5), 5);
    numbers(x, 0, INTS, 0, 1, 2, 6, 7, 8);
    due("copy() of SHORTS", x.copy(2, 0, 1, 2, 0, 0, 1), 1);
    numbers(x, 2, SHORTS, 0, 12, 12);
    // what is copied is the numbers as they are, not the ROW
    x.put(1, INTS, 0, 1, 77);
    numbers(x, 0, INTS, 1, 6, 7, 5);
  }

  private static void copyOverItself() {
    says("promise 32", "a ROW of another STRIP (or the same)");
    NeedlePlate x = three();
    due("copy() to the right", x.copy(0, 0, 0, 0, 0, 1, 4), 4);
    numbers(x, 0, INTS, 0, 1, 1, 2, 3, 4);
    NeedlePlate y = three();
    due("copy() to the left", y.copy(0, 0, 1, 0, 0, 0, 4), 4);
    numbers(y, 0, INTS, 0, 2, 3, 4, 5, 5);
  }

  private static void copyRefused() {
    says("promise 32", "BAD; NULL (the first STRIP, the other one); CAST (of two SORTS); INDEX (the first ROW, the other one); NULL (they are MISSING); INDEX: the numbers are not there, n is below 0.");
    NeedlePlate x = three();
    refused(x, "BAD, the first", x.copy(4, 9, 9, 3, 9, 9, -1), BAD);
    refused(x, "BAD, the first", x.copy(-1, 9, 9, 3, 9, 9, -1), BAD);
    refused(x, "BAD, the other", x.copy(3, 9, 9, 4, 9, 9, -1), BAD);
    refused(x, "BAD, the other", x.copy(3, 9, 9, -1, 9, 9, -1), BAD);
    refused(x, "NULL, the first", x.copy(3, 9, 9, 2, 9, 9, -1), NULL);
    refused(x, "NULL, the other", x.copy(2, 9, 9, 3, 9, 9, -1), NULL);
    refused(x, "NULL, both", x.copy(3, 0, 0, 3, 0, 0, 0), NULL);
    refused(x, "CAST", x.copy(0, 9, 9, 2, 9, 9, -1), CAST);
    refused(x, "CAST", x.copy(2, 0, 0, 0, 0, 0, 0), CAST);
    refused(x, "INDEX, the first ROW, the other MISSING", x.copy(0, 3, 9, 0, 2, 9, -1), INDEX);
    refused(x, "INDEX, the other ROW, the first MISSING", x.copy(0, 2, 9, 0, 3, 9, -1), INDEX);
    refused(x, "INDEX, the first ROW", x.copy(0, -1, 0, 0, 0, 0, 1), INDEX);
    refused(x, "INDEX, the other ROW", x.copy(0, 0, 0, 0, -1, 0, 1), INDEX);
    refused(x, "NULL, the first MISSING", x.copy(0, 2, 9, 0, 0, 9, -1), NULL);
    refused(x, "NULL, the other MISSING", x.copy(0, 0, 9, 0, 2, 9, -1), NULL);
    says("promise 32", "INDEX: the numbers are not there, n is below 0");
    refused(x, "n below 0", x.copy(0, 0, 0, 0, 0, 0, -1), INDEX);
    refused(x, "n below 0, far on", x.copy(0, 0, 5, 0, 0, 5, -1), INDEX);
    refused(x, "n is LOW", x.copy(0, 0, 0, 0, 0, 0, LOW), INDEX);
    refused(x, "one more than the first has", x.copy(0, 1, 0, 0, 0, 0, 4), INDEX);
    refused(x, "one more than the first has", x.copy(0, 1, 2, 0, 0, 0, 2), INDEX);
    refused(x, "one more than the other has", x.copy(0, 0, 0, 0, 1, 0, 4), INDEX);
    refused(x, "one more than the other has", x.copy(0, 0, 0, 0, 1, 2, 2), INDEX);
    refused(x, "i below 0", x.copy(0, 0, -1, 0, 1, 0, 2), INDEX);
    refused(x, "j below 0", x.copy(0, 0, 0, 0, 1, -1, 2), INDEX);
    refused(x, "i and n come round", x.copy(0, 0, HIGH, 0, 1, 0, 1), INDEX);
    refused(x, "j and n come round", x.copy(0, 0, 0, 0, 1, HIGH, 1), INDEX);
    refused(x, "i and n come round", x.copy(0, 0, 1, 0, 1, 1, HIGH), INDEX);
    refused(x, "i and n come to 0", x.copy(0, 0, LOW, 0, 1, LOW, LOW), INDEX);
    threeIsAsMade(x);
  }

  private static void copyOfNone() {
    says("promise 32", "from i on, come to a ROW of another STRIP (or the same), from j on: n");
    NeedlePlate x = three();
    due("copy() of none", x.copy(0, 0, 0, 1, 0, 0, 0), 0);
    due("status()", x.status(), 0);
    due("copy() of none, just at both ends", x.copy(0, 0, 5, 1, 0, 2, 0), 0);
    x.row(0, 2, 0);
    due("copy() of none, of a ROW of none", x.copy(0, 2, 0, 0, 2, 0, 0), 0);
    refused(x, "copy() of one of a ROW of none", x.copy(0, 2, 0, 0, 0, 0, 1), INDEX);
    // as System.arraycopy has it, a place behind the end is none
    refused(x, "copy() of none behind the first's end", x.copy(0, 0, 6, 1, 0, 0, 0), INDEX);
    refused(x, "copy() of none behind the other's end", x.copy(0, 0, 0, 1, 0, 3, 0), INDEX);
    refused(x, "copy() of none ahead of the first", x.copy(0, 0, -1, 1, 0, 0, 0), INDEX);
    refused(x, "copy() of none ahead of the other", x.copy(0, 0, 0, 1, 0, -1, 0), INDEX);
    threeIsAsMade(x);
  }

  private static void wants(NeedlePlate x, int first, int... values) {
    for (int k = 0; k < values.length; k++) due("joint(" + (first + k) + ", 4)", x.joint(first + k, 4), 1000 + values[k]);
  }

  private static void read() {
    says("promise 33", "WANTS of n JOINTS from one on become the first n numbers of a ROW of a STRIP: n.");
    NeedlePlate x = three();
    due("read() of some", x.read(0, 0, 1, 3), 3);
    wants(x, 0, 0, 1, 2, 3, 0, 0, 0, 0, 0, 0, 0, 0);
    due("read() of a whole ROW to the last JOINTS", x.read(0, 1, 9, 3), 3);
    wants(x, 0, 0, 1, 2, 3, 0, 0, 0, 0, 0, 6, 7, 8);
    due("read() of SHORTS", x.read(2, 0, 0, 1), 1);
    wants(x, 0, 11, 1);
    x.strip(3, INTS, 4);
    fill(x, 3, INTS, 3, 1000, -1000, 999, -999, 0, 1, -1, 2, 3, 4, 5, 6);
    due("read() of twelve", x.read(3, 3, 0, 12), 12);
    wants(x, 0, 1000, -1000, 999, -999, 0, 1, -1, 2, 3, 4, 5, 6);
    x.strip(3, BYTES, 1);
    fill(x, 3, BYTES, 0, 200, -129);
    due("read() of BYTES", x.read(3, 0, 0, 2), 2);
    wants(x, 0, -56, 127, 999);
    due("about(7)", x.about(7), 5);
    threeIsAsMade(x);
  }

  private static void readRefused() {
    says("promise 33", "BAD: there are not so many JOINTS (behind the last one there are 0), n below 0");
    for (int[] size : Check.SIZES) {
      NeedlePlate x = new NeedlePlate();
      int joints = x.plate(size[0], size[1]);
      x.strip(0, INTS, 1);
      x.row(0, 0, 12);
      int most = Math.min(joints, 12);
      due("read() of the last ones", x.read(0, 0, joints - most, most), most);
      refused(x, "read() of one more", x.read(0, 0, joints - most + 1, most), BAD);
      refused(x, "read() of one more than all", x.read(0, 0, 0, joints + 1), BAD);
      refused(x, "read() of one behind the last", x.read(0, 0, joints, 1), BAD);
      due("read() of none behind the last", x.read(0, 0, joints, 0), 0);
      refused(x, "read() of none farther behind", x.read(0, 0, joints + 1, 0), BAD);
      Check.range("read(0, 0, _, 0)", v -> x.read(0, 0, v, 0), 0, joints, BAD);
      Check.range("read(_, 0, 0, 0)", v -> x.read(v, 0, 0, 0), 0, 3, BAD);
      for (int n : new int[] {-1, -2, LOW, HIGH}) refused(x, "read() of " + n, x.read(0, 0, 0, n), BAD);
      refused(x, "read(), both come round", x.read(0, 0, HIGH, HIGH), BAD);
      refused(x, "read(), both come round", x.read(0, 0, 1, HIGH), BAD);
      refused(x, "read(), both come to 0", x.read(0, 0, LOW, LOW), BAD);
      refused(x, "read(), both come to some", x.read(0, 0, -1, 1), BAD);
      refused(x, "read(), both come to some", x.read(0, 0, 2, -1), BAD);
    }
    says("promise 33", "BAD: there are not so many JOINTS");
    NeedlePlate x = three();
    refused(x, "BAD ahead of NULL", x.read(3, 9, 12, 1), BAD);
    refused(x, "BAD ahead of INDEX", x.read(0, 9, 12, 1), BAD);
    refused(x, "BAD ahead of INDEX, the number", x.read(0, 0, 7, 6), BAD);
    says("promise 33", "NULL; INDEX; NULL (the ROW); INDEX; then BAD: one is no WANT");
    refused(x, "NULL", x.read(3, 9, 0, 12), NULL);
    refused(x, "INDEX, the ROW", x.read(0, 3, 0, 12), INDEX);
    refused(x, "INDEX, the ROW", x.read(0, -1, 0, 12), INDEX);
    refused(x, "NULL, the ROW", x.read(0, 2, 0, 12), NULL);
    refused(x, "INDEX, the number", x.read(0, 0, 0, 6), INDEX);
    x.row(0, 2, 0);
    refused(x, "INDEX, of a ROW of none", x.read(0, 2, 0, 1), INDEX);
    wants(x, 0, 0, 0, 0, 0, 0, 0, 0, 0, 0, 0, 0, 0);
    due("about(7)", x.about(7), 0);
  }

  private static void readInOrder() {
    says("promise 33", "then BAD: one is no WANT (of FINDINGS and this the first by the numbers in order; nothing changes by it");
    NeedlePlate x = new NeedlePlate();
    x.strip(0, INTS, 1);
    for (int no : new int[] {1001, -1001, HIGH, LOW, 66536}) {
      fill(x, 0, INTS, 0, 7, 8, no);
      due("read() ahead of " + no, x.read(0, 0, 0, 2), 2);
      due("undo()", x.undo(), 0);
      refused(x, "read() up to " + no, x.read(0, 0, 0, 3), BAD);
      refused(x, "read() behind " + no + ", the first is BAD", x.read(0, 0, 0, 4), BAD);
      wants(x, 0, 0, 0, 0, 0);
      due("about(7)", x.about(7), 0);
    }
    fill(x, 0, INTS, 0, 1001, 8);
    refused(x, "read(), the first number is no WANT", x.read(0, 0, 0, 3), BAD);
    fill(x, 0, INTS, 0, 1000, -1000);
    refused(x, "read(), a third is not there", x.read(0, 0, 0, 3), INDEX);
    wants(x, 0, 0, 0, 0);
    due("about(7)", x.about(7), 0);
    // a number behind the n that are asked for is not looked at
    fill(x, 0, INTS, 0, 1000, 5000);
    due("read() of one", x.read(0, 0, 11, 1), 1);
    wants(x, 11, 1000);
    x.strip(1, SHORTS, 1);
    fill(x, 1, SHORTS, 0, 1, 1001);
    refused(x, "read() of SHORTS", x.read(1, 0, 0, 2), BAD);
    wants(x, 0, 0, 0);
    due("about(7)", x.about(7), 1);
  }

  private static void readOfNone() {
    says("promise 33", "n = 0: none of these is looked at");
    NeedlePlate x = three();
    x.put(0, INTS, 0, 0, 1001);
    x.item(3, 0, 0, 0);
    due("no STRIP", x.read(3, 0, 0, 0), 0);
    due("status()", x.status(), 0);
    due("no such ROW", x.read(0, 3, 0, 0), 0);
    due("no such ROW", x.read(0, -1, 0, 0), 0);
    due("no such ROW", x.read(0, HIGH, 0, 0), 0);
    due("a ROW that is MISSING", x.read(0, 2, 0, 0), 0);
    due("a number that is no WANT", x.read(0, 0, 0, 0), 0);
    due("behind the last JOINT", x.read(0, 0, 12, 0), 0);
    due("status()", x.status(), 0);
    due("about(7), not refused", x.about(7), 7);
    due("undo()", x.undo(), 6);
    wants(x, 0, 0, 0, 0, 0, 0, 0, 0, 0, 0, 0, 0, 0);
  }

  private static void status() {
    says("promise 36", "What the latest strip(), row(), put(), item(), copy(), read() was refused by; 0.");
    NeedlePlate x = three();
    due("status(), not refused", x.status(), 0);
    int[] reasons = {BAD, NULL, INDEX, CAST, SIZE};
    for (int reason : reasons) {
      for (int good = 0; good < 6; good++) {
        refuse(x, reason);
        due("status() of " + reason, x.status(), reason);
        due("status() again", x.status(), reason);
        accept(x, good);
        due("status() behind good call " + good, x.status(), 0);
      }
    }
    says("promise 36", "the latest strip(), row(), put(), item(), copy(), read()");
    refuse(x, SIZE);
    others(x);
    due("status() behind others", x.status(), SIZE);
    accept(x, 2);
    others(x);
    due("status() behind others", x.status(), 0);
  }

  private static void refuse(NeedlePlate x, int reason) {
    switch (reason) {
      case Check.BAD: x.read(0, 0, 13, 0); break;
      case Check.NULL: x.item(3, INTS, 0, 0); break;
      case Check.INDEX: x.copy(0, 0, 0, 0, 0, 0, -1); break;
      case Check.CAST: x.put(0, BYTES, 0, 0, 0); break;
      default: x.row(0, 0, -1); break;
    }
  }

  private static void accept(NeedlePlate x, int good) {
    switch (good) {
      case 0: due("strip()", x.strip(2, 0, 1), 1); break;
      case 1: due("row()", x.row(2, 0, 1), 1); break;
      case 2: due("put()", x.put(0, INTS, 0, 0, 5), 1); break;
      case 3: due("item()", x.item(0, INTS, 0, 4), 5); break;
      case 4: due("copy()", x.copy(0, 0, 0, 0, 1, 0, 1), 1); break;
      default: due("read()", x.read(0, 0, 0, 1), 1); break;
    }
  }

  /** All other calls, refused and not. */
  private static void others(NeedlePlate x) {
    x.plate(2, 2);
    x.plate(0, 0);
    x.kind(0, 4);
    x.kind(9, 9);
    x.tell(0, 1);
    x.tell(0, 2);
    x.let(0, true);
    x.let(1, true);
    x.turn(0);
    x.turn(9);
    x.gauge(0);
    x.gauge(9);
    x.want(0, 1);
    x.want(9, 1);
    x.arrange(0);
    x.arrange(16);
    x.one();
    x.point(9);
    x.worth(9);
    x.needle(0, 9);
    x.joint(0, 9);
    x.strain();
    x.troubled(9);
    x.apart(0, 9);
    x.paired();
    x.of(16);
    x.least();
    x.many();
    x.best(-1);
    x.sure(9);
    x.counts(-1);
    x.draw(-1, 0);
    x.above(HIGH);
    x.about(9);
    x.trace();
    x.undo();
  }
}
