/** The arrangements, sentence by sentence: what the promises 21 to 27 say of none, the first, the last and all. */
public final class SearchBoundaryTest {
  private static final int BAD = Check.BAD, NONE = Check.NONE, LOW = Check.LOW, HIGH = Check.HIGH;
  private static final int BAD_AMONG_NUMBERS = Check.BAD_AMONG_NUMBERS;

  public static void main(String[] args) {
    least();
    many();
    best();
    sure();
    counts();
    draw();
    above();
    behindEachChange();
    Check.end();
  }

  private static void says(String where, String words) { Check.says(where, words); }
  private static void due(String call, long got, long want) { Check.due(call, got, want); }

  private static NeedlePlate sized(int rows, int columns) {
    NeedlePlate x = new NeedlePlate();
    x.plate(rows, columns);
    return x;
  }

  /** One row of three: 0 and 1 want to agree by 5, 1 and 2 to differ by 3; the strains are 3 0 5 8 8 5 0 3. */
  private static NeedlePlate line() {
    NeedlePlate x = sized(1, 3);
    x.want(0, 5);
    x.want(1, -3);
    return x;
  }

  private static void hold(NeedlePlate x, int needle, int told) {
    x.kind(needle, 1);
    x.tell(needle, told);
  }

  private static void least() {
    says("promise 21", "LEAST.");
    due("least() without JOINTS", sized(1, 1).least(), 0);
    due("least() without WANTS", sized(3, 4).least(), 0);
    says("Terms", "LEAST is the least STRAIN of these.");
    NeedlePlate x = line();
    due("least()", x.least(), 0);
    hold(x, 0, 0);
    due("least(), one HELD", x.least(), 0);
    hold(x, 1, 1);
    due("least(), two HELD", x.least(), 5);
    hold(x, 2, 1);
    due("least(), all HELD", x.least(), 8);
    x.tell(2, 0);
    due("least(), all HELD", x.least(), 5);
    NeedlePlate most = sized(3, 4);
    for (int j = 0; j < 17; j++) most.want(j, 1000);
    for (int i = 0; i < 12; i++) most.kind(i, 2);
    due("least(), the most WANTS", most.least(), 0);
    for (int j = 0; j < 17; j++) most.want(j, -1000);
    for (int i = 0; i < 12; i++) most.kind(i, 1);
    due("least(), all HELD alike", most.least(), 17000);
  }

  private static void many() {
    says("promise 22", "How many ARRANGEMENTS that MAY BE have LEAST.");
    for (int[] size : Check.SIZES) {
      NeedlePlate x = sized(size[0], size[1]);
      int n = size[0] * size[1];
      due("many(), all", x.many(), 1 << n);
      for (int j = 0; j < x.about(3); j++) x.want(j, 1);
      due("many(), all alike", x.many(), 2);
      x.kind(0, 1);
      due("many(), one HELD", x.many(), 1);
      x.kind(0, 3);
      due("many(), one FREE", x.many(), n == 1 ? 2 : 4);
    }
    NeedlePlate x = line();
    hold(x, 0, 1);
    hold(x, 1, 0);
    hold(x, 2, 0);
    due("many(), all HELD", x.many(), 1);
  }

  private static void best() {
    says("promise 23", "The i-th of these, by numbers; NONE.");
    NeedlePlate x = line();
    due("best(0)", x.best(0), 1);
    due("best(1)", x.best(1), 6);
    due("best(2)", x.best(2), NONE);
    due("best(HIGH)", x.best(HIGH), NONE);
    x.want(0, 0);
    x.want(1, 0);
    for (int i = 0; i < 8; i++) due("best(" + i + "), all", x.best(i), i);
    due("best(8), all", x.best(8), NONE);
    hold(x, 2, 1);
    for (int i = 0; i < 4; i++) due("best(" + i + "), HELD", x.best(i), 2 * i + 1);
    due("best(4), HELD", x.best(4), NONE);
    NeedlePlate large = sized(4, 3);
    due("best(4095)", large.best(4095), 4095);
    due("best(4096)", large.best(4096), NONE);
    due("best(65536)", large.best(65536), NONE);
    says("promise 23", "BAD: i below 0.");
    for (int i : new int[] {-1, -2, -8, -9, LOW, LOW + 1}) due("best(" + i + ")", x.best(i), BAD);
  }

  private static void sure() {
    says("promise 24", "-1000000: BAD.");
    for (int[] size : Check.SIZES) {
      NeedlePlate x = sized(size[0], size[1]);
      int joints = x.about(3);
      if (joints > 0) Check.range("sure(_)", x::sure, 0, joints - 1, BAD_AMONG_NUMBERS);
      else Check.beyond("sure(_)", x::sure, 0, -1, BAD_AMONG_NUMBERS);
    }
    says("promise 24", "Whether a JOINT's NEEDLES POINT alike in all of these (1), differently in all (-1); 0: neither.");
    NeedlePlate x = line();
    due("sure(0)", x.sure(0), 1);
    due("sure(1), -1 is no refusal", x.sure(1), -1);
    x.want(0, 0);
    due("sure(0), neither", x.sure(0), 0);
    x.want(0, 5);
    x.kind(0, 3);
    due("sure(0), FREE", x.sure(0), 0);
    hold(x, 0, 0);
    hold(x, 1, 1);
    due("sure(0), HELD against its WANT", x.sure(0), -1);
    due("sure(1)", x.sure(1), -1);
    hold(x, 2, 1);
    due("sure(1), HELD against its WANT", x.sure(1), 1);
    for (int a = 0; a < 8; a++) {
      for (int i = 0; i < 3; i++) x.tell(i, a >> (2 - i) & 1);
      due("sure(0), one alone MAY BE, " + a, x.sure(0), (a >> 2 & 1) == (a >> 1 & 1) ? 1 : -1);
      due("sure(1), one alone MAY BE, " + a, x.sure(1), (a >> 1 & 1) == (a & 1) ? 1 : -1);
    }
    // in all that have LEAST, not in all that MAY BE: one of four round a field is UNMET, the weakest
    NeedlePlate y = sized(2, 2);
    y.want(0, 3);
    y.want(1, 4);
    y.want(2, 5);
    y.want(3, -2);
    int[] sure = {1, 1, 1, 1};
    for (int j = 0; j < 4; j++) due("sure(" + j + ")", y.sure(j), sure[j]);
    y.want(0, 2);
    due("sure(0), two as weak", y.sure(0), 0);
    due("sure(3), two as weak", y.sure(3), 0);
    due("sure(1)", y.sure(1), 1);
    // without one that is HELD the first and the last of these are each other's opposite; with one, they differ in kind
    NeedlePlate z = sized(1, 2);
    hold(z, 0, 0);
    due("sure(0), alike in the first, differently in the last", z.sure(0), 0);
    hold(z, 0, 1);
    due("sure(0), differently in the first, alike in the last", z.sure(0), 0);
  }

  private static void counts() {
    says("promise 25", "How many ARRANGEMENTS that MAY BE have a STRAIN of v.");
    NeedlePlate x = line();
    int[] counts = {2, 0, 0, 2, 0, 2, 0, 0, 2, 0};
    for (int v = 0; v < counts.length; v++) due("counts(" + v + ")", x.counts(v), counts[v]);
    due("counts(HIGH)", x.counts(HIGH), 0);
    due("counts(10000000)", x.counts(10000000), 0);
    hold(x, 0, 1);
    for (int v = 0; v < counts.length; v++) due("counts(" + v + "), HELD", x.counts(v), counts[v] / 2);
    due("counts(0), all", sized(3, 4).counts(0), 4096);
    due("counts(1), none", sized(3, 4).counts(1), 0);
    due("counts(0) without JOINTS", sized(1, 1).counts(0), 2);
    says("promise 25", "BAD: v below 0.");
    due("counts(-1)", x.counts(-1), BAD);
    due("counts(LOW)", x.counts(LOW), BAD);
    due("counts(-9)", x.counts(-9), BAD);
  }

  private static void draw() {
    says("promise 26", "The i-th ARRANGEMENT that MAY BE with a STRAIN of v, by numbers; NONE.");
    NeedlePlate x = line();
    int[][] drawn = {{0, 1, 6}, {3, 0, 7}, {5, 2, 5}, {8, 3, 4}};
    for (int[] d : drawn) {
      due("draw(" + d[0] + ", 0)", x.draw(d[0], 0), d[1]);
      due("draw(" + d[0] + ", 1)", x.draw(d[0], 1), d[2]);
      due("draw(" + d[0] + ", 2)", x.draw(d[0], 2), NONE);
      due("draw(" + d[0] + ", HIGH)", x.draw(d[0], HIGH), NONE);
    }
    due("draw(1, 0)", x.draw(1, 0), NONE);
    due("draw(9, 0)", x.draw(9, 0), NONE);
    due("draw(HIGH, 0)", x.draw(HIGH, 0), NONE);
    due("draw(10000000, 0)", x.draw(10000000, 0), NONE);
    hold(x, 0, 1);
    for (int[] d : drawn) {
      due("draw(" + d[0] + ", 0), HELD", x.draw(d[0], 0), Math.max(d[1], d[2]));
      due("draw(" + d[0] + ", 1), HELD", x.draw(d[0], 1), NONE);
    }
    due("draw(0, 4095)", sized(3, 4).draw(0, 4095), 4095);
    due("draw(0, 4096)", sized(3, 4).draw(0, 4096), NONE);
    says("promise 26", "BAD: v, i below 0.");
    due("draw(-1, 0)", x.draw(-1, 0), BAD);
    due("draw(0, -1)", x.draw(0, -1), BAD);
    due("draw(-1, -1)", x.draw(-1, -1), BAD);
    due("draw(LOW, 0)", x.draw(LOW, 0), BAD);
    due("draw(0, LOW)", x.draw(0, LOW), BAD);
    due("draw(1, -1), none there", x.draw(1, -1), BAD);
    due("draw(-1, HIGH)", x.draw(-1, HIGH), BAD);
  }

  private static void above() {
    says("promise 27", "The next greater STRAIN that an ARRANGEMENT that MAY BE has; NONE.");
    NeedlePlate x = line();
    int[] next = {3, 3, 3, 5, 5, 8, 8, 8, NONE, NONE};
    for (int v = 0; v < next.length; v++) due("above(" + v + ")", x.above(v), next[v]);
    due("above(-1), not below 0", x.above(-1), 0);
    due("above(-9)", x.above(-9), 0);
    due("above(LOW)", x.above(LOW), 0);
    due("above(HIGH)", x.above(HIGH), NONE);
    due("above(10000000)", x.above(10000000), NONE);
    hold(x, 0, 0);
    hold(x, 1, 1);
    due("above(LOW), HELD", x.above(LOW), 5);
    due("above(4), HELD", x.above(4), 5);
    due("above(5), HELD", x.above(5), 8);
    due("above(8), HELD", x.above(8), NONE);
    hold(x, 2, 0);
    due("above(5), all HELD", x.above(5), NONE);
    due("above(-1) without JOINTS", sized(1, 1).above(-1), 0);
    due("above(0) without JOINTS", sized(1, 1).above(0), NONE);
  }

  /** What is told of arrangements is of the plate as it is, not as it was when last asked. */
  private static void behindEachChange() {
    says("Terms", "LEAST is the least STRAIN of these.");
    NeedlePlate x = line();
    due("best(0)", x.best(0), 1);
    x.kind(0, 1);
    due("many() behind kind()", x.many(), 1);
    x.tell(0, 1);
    due("best(0) behind tell()", x.best(0), 6);
    x.kind(0, 4);
    x.let(0, true);
    due("many() behind let()", x.many(), 2);
    x.gauge(1);
    due("best(0) behind gauge()", x.best(0), 3);
    x.want(0, 5);
    due("best(0) behind want()", x.best(0), 0);
    x.turn(0);
    due("best(0) behind turn()", x.best(0), 0);
    x.arrange(5);
    due("best(0) behind arrange()", x.best(0), 0);
    x.one();
    due("best(0) behind one()", x.best(0), 0);
    x.strip(0, 0, 1);
    x.row(0, 0, 2);
    x.put(0, 0, 0, 1, -1);
    x.read(0, 0, 0, 2);
    due("many() behind read()", x.many(), 4);
    due("best(0) behind read()", x.best(0), 1);
    due("undo() of read()", x.undo(), 11);
    due("many() behind undo()", x.many(), 2);
    due("best(0) behind undo()", x.best(0), 0);
    x.plate(1, 2);
    due("many() behind plate()", x.many(), 4);
    due("best(4) behind plate()", x.best(4), NONE);
  }
}
