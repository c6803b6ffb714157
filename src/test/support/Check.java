import java.util.LinkedHashSet;
import java.util.Set;
import java.util.function.IntUnaryOperator;

/** What the tests by sentence share: the sentence at hand, the answers that are due, the ends of a range. */
final class Check {
  static final int BAD = -1, STATE = -2, NONE = -9, NULL = -11, INDEX = -12, CAST = -13, SIZE = -15;
  static final int BAD_AMONG_NUMBERS = -1000000;
  static final int LOW = Integer.MIN_VALUE, HIGH = Integer.MAX_VALUE;

  /** Every size that a plate may have. */
  static final int[][] SIZES = {
    {1, 1}, {1, 2}, {1, 3}, {1, 4}, {1, 5}, {1, 6}, {2, 1}, {2, 2}, {2, 3}, {2, 4}, {2, 5}, {2, 6},
    {3, 1}, {3, 2}, {3, 3}, {3, 4}, {4, 1}, {4, 2}, {4, 3}, {5, 1}, {5, 2}, {6, 1}, {6, 2},
  };

  // by these a number that is too large or too small comes back to a good one, if too few of its bits are looked at
  private static final int[] WRAPS = {8, 16, 32, 64, 256, 65536, 1 << 24, LOW};

  private static String sentence = "";
  private static int asked = 0;
  private static int wrong = 0;

  private Check() {}

  /** The sentence of the document that the answers behind this are due by. */
  static void says(String where, String words) {
    sentence = where + ", \"" + words + "\"";
  }

  static void due(String call, long got, long want) {
    asked++;
    if (got != want) tell(call + " answered " + got + ", due is " + want);
  }

  static void dueText(String what, String got, String want) {
    asked++;
    if (!got.equals(want)) tell(what + " is\n  " + got + "\ndue is\n  " + want);
  }

  /** The call, with its number at '_', takes low .. high, both ends too, and refuses all else. */
  static void range(String call, IntUnaryOperator answer, int low, int high, int refusal) {
    for (int v : new int[] {low, high}) taken(call, v, answer.applyAsInt(v), refusal);
    beyond(call, answer, low, high, refusal);
  }

  /** The call, with its number at '_', refuses all but low .. high; with low above high it refuses everything. */
  static void beyond(String call, IntUnaryOperator answer, int low, int high, int refusal) {
    for (int v : outside(low, high)) due(call.replace("_", Integer.toString(v)), answer.applyAsInt(v), refusal);
  }

  private static void taken(String call, int v, int got, int refusal) {
    asked++;
    if (got == refusal) tell(call.replace("_", Integer.toString(v)) + " is refused");
  }

  private static Set<Integer> outside(int low, int high) {
    Set<Integer> all = new LinkedHashSet<>();
    for (int v : new int[] {low - 1, high + 1, low - 2, high + 2, LOW, HIGH}) all.add(v);
    for (int wrap : WRAPS) {
      all.add(low + wrap);
      all.add(high - wrap);
    }
    all.removeIf(v -> v >= low && v <= high);
    return all;
  }

  private static void tell(String what) {
    wrong++;
    System.out.println(sentence + ": " + what);
  }

  static void end() {
    System.out.println(wrong == 0 ? "all " + asked + " answers are as due" : wrong + " answers are not as due");
    if (wrong != 0) System.exit(1);
  }
}
