import java.util.ArrayList;
import java.util.Arrays;
import java.util.List;
import java.util.Objects;
import java.util.Random;

/**
 * Long runs of mixed calls, the same each time, against a plain model of the document that is written another
 * way: needles are objects of classes that stand over one another, strips are the machine's own arrays whose
 * exceptions are the findings, every search tries all that there is.
 */
public final class ModelTest {
  private static final int RUNS = 4600;
  // a step asks an object for six answers at most, and an object has 512 calls
  private static final int STEPS = 85;
  private static final int MOST_TOLD = 20;

  public static void main(String[] args) {
    int wrong = 0;
    long steps = 0;
    for (int run = 0; run < RUNS && wrong < MOST_TOLD; run++) {
      Driver driver = new Driver(run);
      for (int i = 0; i < STEPS; i++) {
        steps++;
        if (!driver.step()) {
          System.out.println("run " + run + ", step " + i + ": " + driver.told);
          wrong++;
          break;
        }
      }
    }
    System.out.println(wrong == 0 ? steps + " steps are as the model has them" : wrong + " runs went wrong");
    if (wrong != 0) System.exit(1);
  }

  // ---- needles whose kinds stand over one another

  private static class Needle {
    int turn, told;
    boolean letGo;
    Model plate;

    int number() { return 0; }
    int points() { plate.count(1); return turn; }
    int worths() { plate.count(1000); return 1; }
    boolean isHeld() { return false; }

    final Needle with(Needle other) {
      turn = other.turn;
      told = other.told;
      letGo = other.letGo;
      plate = other.plate;
      return this;
    }
  }

  private static class Held extends Needle {
    @Override int number() { return 1; }
    @Override int points() { plate.count(10); return told; }
    @Override boolean isHeld() { return true; }
    final int pointsOver() { return super.points(); }
  }

  private static final class Twofold extends Needle {
    @Override int number() { return 2; }
    @Override int worths() { plate.count(10000); return super.worths() + super.worths(); }
  }

  private static final class Free extends Needle {
    @Override int number() { return 3; }
    @Override int worths() { plate.count(100000); return 0; }
  }

  private static final class Edge extends Held {
    @Override int number() { return 4; }
    @Override int points() { plate.count(100); return letGo ? pointsOver() : super.points(); }
    @Override boolean isHeld() { return !letGo; }
  }

  private static Needle ofKind(int kind) {
    switch (kind) {
      case 1: return new Held();
      case 2: return new Twofold();
      case 3: return new Free();
      case 4: return new Edge();
      default: return new Needle();
    }
  }

  // ---- the model

  private static final class Kept {
    final List<Needle> needles = new ArrayList<>();
    int[] wants;
  }

  private static final class Model {
    int rows, columns;
    List<Needle> needles = new ArrayList<>();
    int[][] ends, sides;
    int[] wants;
    final List<Kept> kept = new ArrayList<>();
    final Object[] strips = new Object[4];
    long trace = 0;
    boolean counting = false;
    int status = 0;

    Model() { build(3, 3); }

    void count(int n) { if (counting) trace += n; }

    void build(int r, int c) {
      rows = r;
      columns = c;
      needles = new ArrayList<>();
      for (int i = 0; i < r * c; i++) {
        Needle needle = new Needle();
        needle.plate = this;
        needles.add(needle);
      }
      List<int[]> pairs = new ArrayList<>();
      for (int i = 0; i < r * c; i++) if (i % c != c - 1) pairs.add(new int[] {i, i + 1});
      for (int i = 0; i + c < r * c; i++) pairs.add(new int[] {i, i + c});
      ends = pairs.toArray(new int[0][]);
      wants = new int[ends.length];
      sides = new int[ends.length][];
      for (int j = 0; j < ends.length; j++) sides[j] = sidesOf(ends[j]);
      kept.clear();
    }

    int fields() { return (rows - 1) * (columns - 1) + 1; }

    /** A field is around a joint, if both of the joint's needles are among its four. */
    int[] sidesOf(int[] pair) {
      int[] found = {fields() - 1, fields() - 1};
      int n = 0;
      for (int f = 0; f < fields() - 1; f++) {
        int corner = f / (columns - 1) * columns + f % (columns - 1);
        List<Integer> four = Arrays.asList(corner, corner + 1, corner + columns, corner + columns + 1);
        if (four.contains(pair[0]) && four.contains(pair[1])) found[n++] = f;
      }
      Arrays.sort(found);
      return found;
    }

    void keep() {
      Kept k = new Kept();
      for (Needle needle : needles) k.needles.add(ofKind(needle.number()).with(needle));
      k.wants = wants.clone();
      kept.add(k);
      if (kept.size() > 20) kept.remove(0);
    }

    boolean isNeedle(int i) { return i >= 0 && i < needles.size(); }
    boolean isJoint(int j) { return j >= 0 && j < wants.length; }
    boolean isField(int f) { return f >= 0 && f < fields(); }
    boolean isArrangement(int a) { return a >= 0 && a < 1 << needles.size(); }

    int counts(int j) { return wants[j] * needles.get(ends[j][0]).worths() * needles.get(ends[j][1]).worths(); }

    int pointIn(int a, int i) { return a / (1 << (needles.size() - 1 - i)) % 2; }

    int pointing() {
      int a = 0;
      for (Needle needle : needles) a = 2 * a + needle.points();
      return a;
    }

    int strainOf(int a) {
      int sum = 0;
      for (int j = 0; j < wants.length; j++) {
        boolean alike = pointIn(a, ends[j][0]) == pointIn(a, ends[j][1]);
        int c = counts(j);
        if (c > 0 && !alike) sum += c;
        if (c < 0 && alike) sum -= c;
      }
      return sum;
    }

    int strain() { return strainOf(pointing()); }

    boolean mayBe(int a) {
      for (int i = 0; i < needles.size(); i++) {
        if (needles.get(i).isHeld() && needles.get(i).points() != pointIn(a, i)) return false;
      }
      return true;
    }

    /** All that may be, each with its strain. */
    List<int[]> all() {
      List<int[]> list = new ArrayList<>();
      for (int a = 0; a < 1 << needles.size(); a++) if (mayBe(a)) list.add(new int[] {a, strainOf(a)});
      return list;
    }

    List<Integer> with(int v) {
      List<Integer> list = new ArrayList<>();
      for (int[] one : all()) if (one[1] == v) list.add(one[0]);
      return list;
    }

    int above(long v) {
      long next = Long.MAX_VALUE;
      for (int[] one : all()) if (one[1] > v && one[1] < next) next = one[1];
      return next == Long.MAX_VALUE ? -9 : (int) next;
    }

    int least() { return above(-1); }

    boolean troubled(int f) {
      int n = 0;
      for (int j = 0; j < wants.length; j++) {
        if (counts(j) < 0) {
          if (sides[j][0] == f) n++;
          if (sides[j][1] == f) n++;
        }
      }
      return n % 2 == 1;
    }

    List<Integer> troubledOnes() {
      List<Integer> list = new ArrayList<>();
      for (int f = 0; f < fields(); f++) if (troubled(f)) list.add(f);
      return list;
    }

    int apart(int from, int to) {
      int[] way = new int[fields()];
      Arrays.fill(way, 1 << 28);
      way[from] = 0;
      for (int round = 0; round < fields(); round++) {
        for (int j = 0; j < wants.length; j++) {
          int a = sides[j][0], b = sides[j][1], w = Math.abs(counts(j));
          way[a] = Math.min(way[a], way[b] + w);
          way[b] = Math.min(way[b], way[a] + w);
        }
      }
      return way[to];
    }

    int paired(List<Integer> left) {
      if (left.isEmpty()) return 0;
      int best = Integer.MAX_VALUE;
      for (int i = 1; i < left.size(); i++) {
        List<Integer> rest = new ArrayList<>(left);
        rest.remove(i);
        rest.remove(0);
        best = Math.min(best, apart(left.get(0), left.get(i)) + paired(rest));
      }
      return best;
    }

    // -- the calls

    int plate(int r, int c) {
      if (r < 1 || r > 6 || c < 1 || c > 6 || r * c > 12) return -1;
      build(r, c);
      return wants.length;
    }

    int kind(int i, int kind) {
      if (!isNeedle(i) || kind < 0 || kind > 4) return -1;
      int r = i / columns, c = i % columns;
      if (kind == 4 && r > 0 && r < rows - 1 && c > 0 && c < columns - 1) return -1;
      keep();
      Needle was = needles.get(i);
      Needle now = ofKind(kind).with(was);
      now.letGo = false;
      needles.set(i, now);
      return was.number();
    }

    int tell(int i, int v) {
      if (!isNeedle(i) || v != 0 && v != 1) return -1;
      keep();
      int was = needles.get(i).told;
      needles.get(i).told = v;
      return was;
    }

    int let(int i, boolean go) {
      if (!isNeedle(i) || !(needles.get(i) instanceof Edge)) return -1;
      keep();
      boolean was = needles.get(i).letGo;
      needles.get(i).letGo = go;
      return was ? 1 : 0;
    }

    int turn(int i, boolean gauge) {
      if (!isNeedle(i)) return -1000000;
      keep();
      int before = strain();
      needles.get(i).turn = 1 - needles.get(i).turn;
      for (int j = 0; gauge && j < wants.length; j++) {
        if (ends[j][0] == i || ends[j][1] == i) wants[j] *= -1;
      }
      return strain() - before;
    }

    int want(int j, int v) {
      if (!isJoint(j) || v < -1000 || v > 1000) return -1000000;
      keep();
      int was = wants[j];
      wants[j] = v;
      return was;
    }

    int arrange(int a) {
      if (!isArrangement(a)) return -1;
      keep();
      for (int i = 0; i < needles.size(); i++) {
        if (!needles.get(i).isHeld()) needles.get(i).turn = pointIn(a, i);
      }
      return strain();
    }

    int one() {
      keep();
      int n = 0;
      int i = 0;
      while (i < needles.size()) {
        int before = strain();
        needles.get(i).turn ^= 1;
        if (strain() < before) {
          n++;
          i = 0;
        } else {
          needles.get(i).turn ^= 1;
          i++;
        }
      }
      return n;
    }

    int undo() {
      if (kept.isEmpty()) return -2;
      Kept k = kept.remove(kept.size() - 1);
      needles = k.needles;
      wants = k.wants;
      return kept.size();
    }

    int needle(int i, int what) {
      if (!isNeedle(i) || what < 0 || what > 4) return -1;
      Needle n = needles.get(i);
      return new int[] {n.turn, n.told, n.number(), n.letGo ? 1 : 0, n.isHeld() ? 1 : 0}[what];
    }

    int joint(int j, int what) {
      if (!isJoint(j) || what < 0 || what > 6) return -1;
      int p = needles.get(ends[j][0]).points(), q = needles.get(ends[j][1]).points(), c = counts(j);
      int unmet = c > 0 && p != q || c < 0 && p == q ? 1 : 0;
      int[] all = {ends[j][0], ends[j][1], sides[j][0], sides[j][1], wants[j] + 1000, unmet, Math.abs(c)};
      return all[what];
    }

    int sure(int j) {
      if (!isJoint(j)) return -1000000;
      boolean alike = true, different = true;
      for (int a : with(least())) {
        boolean same = pointIn(a, ends[j][0]) == pointIn(a, ends[j][1]);
        alike &= same;
        different &= !same;
      }
      return alike ? 1 : different ? -1 : 0;
    }

    static int pick(List<Integer> list, int i) { return i < list.size() ? list.get(i) : -9; }

    int about(int what) {
      if (what < 0 || what > 7) return -1;
      int held = 0;
      for (Needle needle : needles) if (needle.isHeld()) held++;
      int[] all = {rows, columns, needles.size(), wants.length, fields(), held, troubledOnes().size(), kept.size()};
      return all[what];
    }

    // -- strips, refused by the machine itself

    int finding(RuntimeException e) {
      if (e instanceof NullPointerException) return -11;
      if (e instanceof IndexOutOfBoundsException) return -12;
      if (e instanceof ClassCastException) return -13;
      if (e instanceof NegativeArraySizeException) return -15;
      throw e;
    }

    int strip(int s, int sort, int n) {
      if (s < 0 || s > 3 || sort < 0 || sort > 2 || n > 4) return status = -1;
      try {
        strips[s] = sort == 0 ? new byte[n][] : sort == 1 ? new short[n][] : new int[n][];
        status = 0;
        return 1;
      } catch (RuntimeException e) {
        return status = finding(e);
      }
    }

    int row(int s, int r, int n) {
      if (s < 0 || s > 3 || n > 12) return status = -1;
      try {
        Object[] rows = (Object[]) strips[s];
        // the machine alone would find SIZE ahead of INDEX
        Objects.checkIndex(r, rows.length);
        if (rows instanceof byte[][]) rows[r] = new byte[n];
        if (rows instanceof short[][]) rows[r] = new short[n];
        if (rows instanceof int[][]) rows[r] = new int[n];
        status = 0;
        return 1;
      } catch (RuntimeException e) {
        return status = finding(e);
      }
    }

    int put(int s, int sort, int r, int i, int v) {
      if (s < 0 || s > 3 || sort < 0 || sort > 2) return status = -1;
      try {
        if (sort == 0) ((byte[][]) strips[s])[r][i] = (byte) v;
        if (sort == 1) ((short[][]) strips[s])[r][i] = (short) v;
        if (sort == 2) ((int[][]) strips[s])[r][i] = v;
        status = 0;
        return 1;
      } catch (RuntimeException e) {
        return status = finding(e);
      }
    }

    int item(int s, int sort, int r, int i) {
      status = 0;
      if (s < 0 || s > 3 || sort < 0 || sort > 2) {
        status = -1;
        return 0;
      }
      try {
        if (sort == 0) return ((byte[][]) strips[s])[r][i];
        if (sort == 1) return ((short[][]) strips[s])[r][i];
        return ((int[][]) strips[s])[r][i];
      } catch (RuntimeException e) {
        status = finding(e);
        return 0;
      }
    }

    int copy(int s, int r, int i, int o, int q, int j, int n) {
      if (s < 0 || s > 3 || o < 0 || o > 3) return status = -1;
      try {
        if (strips[s].getClass() != strips[o].getClass()) throw new ClassCastException();
        Object from = ((Object[]) strips[s])[r];
        Object to = ((Object[]) strips[o])[q];
        System.arraycopy(from, i, to, j, n);
        status = 0;
        return n;
      } catch (RuntimeException e) {
        return status = finding(e);
      }
    }

    int numberOf(int s, int r, int i) {
      if (strips[s] instanceof byte[][] b) return b[r][i];
      if (strips[s] instanceof short[][] h) return h[r][i];
      return ((int[][]) strips[s])[r][i];
    }

    int read(int s, int r, int j, int n) {
      if (s < 0 || s > 3 || j < 0 || n < 0 || (long) j + n > wants.length) return status = -1;
      int[] fresh = wants.clone();
      try {
        for (int k = 0; k < n; k++) {
          int v = numberOf(s, r, k);
          if (v < -1000 || v > 1000) return status = -1;
          fresh[j + k] = v;
        }
      } catch (RuntimeException e) {
        return status = finding(e);
      }
      keep();
      wants = fresh;
      status = 0;
      return n;
    }
  }

  // ---- what is asked of both

  private static final class Driver {
    final Random random;
    final NeedlePlate real = new NeedlePlate();
    final Model model = new Model();
    final int reach;
    String told = "";

    Driver(int run) {
      random = new Random(run);
      int[] reaches = {1, 3, 10, 1000};
      reach = reaches[run % reaches.length];
      int[] size = Check.SIZES[run % Check.SIZES.length];
      real.plate(size[0], size[1]);
      model.plate(size[0], size[1]);
    }

    /** Mostly 0 .. n - 1, now and then past its ends. */
    int upTo(int n) {
      int way = random.nextInt(40);
      if (way == 0) return -1 - random.nextInt(3);
      if (way == 1) return n + random.nextInt(3);
      if (way == 2) return random.nextBoolean() ? Integer.MAX_VALUE : Integer.MIN_VALUE;
      return n < 1 ? 0 : random.nextInt(n);
    }

    int someWant() {
      int way = random.nextInt(30);
      if (way == 0) return random.nextBoolean() ? 1001 : -1001;
      if (way == 1) return random.nextInt();
      return random.nextInt(2 * reach + 1) - reach;
    }

    int someStrain() {
      int way = random.nextInt(4);
      if (way == 0) return upTo(20 * reach);
      return model.strainOf(random.nextInt(1 << model.needles.size()));
    }

    int needle() { return upTo(model.needles.size()); }
    int joint() { return upTo(model.wants.length); }
    int field() { return upTo(model.fields()); }
    int arrangement() { return upTo(1 << model.needles.size()); }

    boolean same(String call, long got, long due) {
      if (got == due) return true;
      told = call + " answered " + got + ", the model says " + due;
      return false;
    }

    boolean step() {
      int way = random.nextInt(100);
      boolean good = way < 42 ? change() : way < 58 ? look() : way < 66 ? search() : strips();
      return good && same("status() behind " + told, real.status(), model.status)
          && same("trace() behind " + told, real.trace(), model.trace)
          && same("strain() behind " + told, real.strain(), model.strain())
          && same("about(7) behind " + told, real.about(7), model.kept.size());
    }

    boolean change() {
      int i = needle(), j = joint(), a = arrangement(), w = someWant();
      switch (random.nextInt(26)) {
        case 0: {
          if (random.nextInt(6) != 0) return change();
          int r = upTo(7), c = upTo(7);
          return same("plate(" + r + ", " + c + ")", real.plate(r, c), model.plate(r, c));
        }
        case 1: case 2: case 3: case 4: {
          int k = upTo(5);
          return same("kind(" + i + ", " + k + ")", real.kind(i, k), model.kind(i, k));
        }
        case 5: case 6: {
          int v = upTo(2);
          return same("tell(" + i + ", " + v + ")", real.tell(i, v), model.tell(i, v));
        }
        case 7: case 8: {
          boolean go = random.nextInt(3) != 0;
          return same("let(" + i + ", " + go + ")", real.let(i, go), model.let(i, go));
        }
        case 9: case 10: case 11: return same("turn(" + i + ")", real.turn(i), model.turn(i, false));
        case 12: case 13: return same("gauge(" + i + ")", real.gauge(i), model.turn(i, true));
        case 14: case 15: return same("arrange(" + a + ")", real.arrange(a), model.arrange(a));
        case 16: return same("one()", real.one(), model.one());
        case 17: case 18: case 19: return same("undo()", real.undo(), model.undo());
        default: return same("want(" + j + ", " + w + ")", real.want(j, w), model.want(j, w));
      }
    }

    boolean look() {
      int i = needle(), j = joint(), f = field(), g = field();
      switch (random.nextInt(9)) {
        case 0: {
          model.counting = true;
          int due = model.isNeedle(i) ? model.needles.get(i).points() : -1;
          model.counting = false;
          return same("point(" + i + ")", real.point(i), due);
        }
        case 1: {
          model.counting = true;
          int due = model.isNeedle(i) ? model.needles.get(i).worths() : -1;
          model.counting = false;
          return same("worth(" + i + ")", real.worth(i), due);
        }
        case 2: {
          int what = upTo(5);
          return same("needle(" + i + ", " + what + ")", real.needle(i, what), model.needle(i, what));
        }
        case 3: case 4: {
          int what = upTo(7);
          return same("joint(" + j + ", " + what + ")", real.joint(j, what), model.joint(j, what));
        }
        case 5: {
          int due = model.isField(f) ? model.troubled(f) ? 1 : 0 : -1;
          return same("troubled(" + f + ")", real.troubled(f), due);
        }
        case 6: {
          int due = model.isField(f) && model.isField(g) ? model.apart(f, g) : -1;
          return same("apart(" + f + ", " + g + ")", real.apart(f, g), due);
        }
        case 7: {
          int due = model.about(5) > 0 ? -2 : model.paired(model.troubledOnes());
          return same("paired()", real.paired(), due);
        }
        default: {
          int what = upTo(8);
          return same("about(" + what + ")", real.about(what), model.about(what));
        }
      }
    }

    boolean search() {
      int a = arrangement(), j = joint(), v = someStrain(), i = upTo(4);
      switch (random.nextInt(9)) {
        case 0: return same("of(" + a + ")", real.of(a), model.isArrangement(a) ? model.strainOf(a) : -1);
        case 1: return same("least()", real.least(), model.least());
        case 2: return same("many()", real.many(), model.with(model.least()).size());
        case 3: {
          int due = i < 0 ? -1 : Model.pick(model.with(model.least()), i);
          return same("best(" + i + ")", real.best(i), due);
        }
        case 4: return same("sure(" + j + ")", real.sure(j), model.sure(j));
        case 5: return same("counts(" + v + ")", real.counts(v), v < 0 ? -1 : model.with(v).size());
        case 6: {
          int due = v < 0 || i < 0 ? -1 : Model.pick(model.with(v), i);
          return same("draw(" + v + ", " + i + ")", real.draw(v, i), due);
        }
        case 7: return same("above(" + v + ")", real.above(v), model.above(v));
        default: {
          if (model.about(5) > 0) return true;
          return same("paired() and least()", real.paired(), real.least());
        }
      }
    }

    boolean strips() {
      int s = upTo(4), o = upTo(4), r = upTo(2), q = upTo(2), i = upTo(6), j = upTo(6), n = upTo(5);
      int sort = random.nextInt(3) == 0 ? upTo(3) : s & 1;
      switch (random.nextInt(12)) {
        case 0: {
          int rows = upTo(5);
          if (random.nextInt(3) != 0) return strips();
          return same("strip(" + s + ", " + sort + ", " + rows + ")", real.strip(s, sort, rows), model.strip(s, sort, rows));
        }
        case 1: case 2: {
          int length = upTo(13);
          return same("row(" + s + ", " + r + ", " + length + ")", real.row(s, r, length), model.row(s, r, length));
        }
        case 3: case 4: case 5: {
          int v = someWant();
          String call = "put(" + s + ", " + sort + ", " + r + ", " + i + ", " + v + ")";
          return same(call, real.put(s, sort, r, i, v), model.put(s, sort, r, i, v));
        }
        case 6: case 7: {
          String call = "item(" + s + ", " + sort + ", " + r + ", " + i + ")";
          return same(call, real.item(s, sort, r, i), model.item(s, sort, r, i));
        }
        case 8: case 9: {
          String call = "copy(" + s + ", " + r + ", " + i + ", " + o + ", " + q + ", " + j + ", " + n + ")";
          return same(call, real.copy(s, r, i, o, q, j, n), model.copy(s, r, i, o, q, j, n));
        }
        default: {
          int first = random.nextInt(3) == 0 ? joint() : 0;
          String call = "read(" + s + ", " + r + ", " + first + ", " + n + ")";
          return same(call, real.read(s, r, first, n), model.read(s, r, first, n));
        }
      }
    }
  }
}
