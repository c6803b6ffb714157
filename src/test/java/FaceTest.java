import java.lang.reflect.Constructor;
import java.lang.reflect.Field;
import java.lang.reflect.Method;
import java.lang.reflect.Modifier;
import java.nio.file.Files;
import java.nio.file.Path;
import java.util.Arrays;
import java.util.Set;
import java.util.TreeSet;
import java.util.regex.Pattern;

/** The public face as the document has it, and rules of the language that can be read off the class and its text. */
public final class FaceTest {
  private static final String[] METHODS = {
    "int plate(int,int)", "int kind(int,int)", "int tell(int,int)", "int let(int,boolean)", "int turn(int)",
    "int gauge(int)", "int want(int,int)", "int arrange(int)", "int one()", "int undo()", "int point(int)",
    "int worth(int)", "int needle(int,int)", "int joint(int,int)", "int strain()", "int troubled(int)",
    "int apart(int,int)", "int paired()", "int of(int)", "int least()", "int many()", "int best(int)",
    "int sure(int)", "int counts(int)", "int draw(int,int)", "int above(int)", "int strip(int,int,int)",
    "int row(int,int,int)", "int put(int,int,int,int,int)", "int item(int,int,int,int)",
    "int copy(int,int,int,int,int,int,int)", "int read(int,int,int,int)", "int about(int)", "long trace()",
    "int status()",
  };
  private static final String[] CONSTANTS = {
    "BAD = -1", "CAST = -13", "FULL = -3", "INDEX = -12", "NONE = -9", "NULL = -11", "SIZE = -15", "STATE = -2",
  };
  private static final String[] RULED_OUT = {
    "\\bthrow\\b", "\\btry\\b", "\\bcatch\\b", "\\bsynchronized\\b", "\\bassert\\b", "->", "::", "Exact\\b",
    "\\bprotected\\b", "\\bSystem\\.(?!arraycopy)", "\\bMath\\.random\\b", "\\bThread\\b", "\\bObject\\b",
  };
  private static final int MOST_CLASSES = 12, MOST_FIELDS = 20;

  private static int wrong = 0;

  private static void due(String what, boolean holds) {
    if (!holds) {
      wrong++;
      System.out.println(what);
    }
  }

  public static void main(String[] args) throws Exception {
    Class<?> face = NeedlePlate.class;
    due("the class is public and final", Modifier.isPublic(face.getModifiers()) && Modifier.isFinal(face.getModifiers()));
    methods(face);
    constants(face);
    constructors(face);
    classesInside(face);
    text();
    System.out.println(wrong == 0 ? "the face is as due" : wrong + " things are not as due");
    if (wrong != 0) System.exit(1);
  }

  private static String signature(Method m) {
    StringBuilder s = new StringBuilder(m.getReturnType() + " " + m.getName() + "(");
    for (Class<?> type : m.getParameterTypes()) s.append(s.charAt(s.length() - 1) == '(' ? "" : ",").append(type);
    return s.append(")").toString();
  }

  private static void methods(Class<?> face) {
    Set<String> seen = new TreeSet<>();
    for (Method m : face.getDeclaredMethods()) {
      if (!Modifier.isPrivate(m.getModifiers())) seen.add((Modifier.isStatic(m.getModifiers()) ? "static " : "") + signature(m));
    }
    Set<String> named = new TreeSet<>(Arrays.asList(METHODS));
    due("methods: seen " + seen + ", due " + named, seen.equals(named));
  }

  private static void constants(Class<?> face) throws IllegalAccessException {
    Set<String> seen = new TreeSet<>();
    for (Field f : face.getDeclaredFields()) {
      int m = f.getModifiers();
      due("static and not final: " + f, !Modifier.isStatic(m) || Modifier.isFinal(m));
      if (!Modifier.isPrivate(m)) {
        due("a constant: " + f, Modifier.isPublic(m) && Modifier.isStatic(m) && f.getType() == int.class);
        seen.add(f.getName() + " = " + f.get(null));
      }
    }
    due("constants: " + seen, seen.equals(new TreeSet<>(Arrays.asList(CONSTANTS))));
  }

  private static void constructors(Class<?> face) {
    Constructor<?>[] all = face.getDeclaredConstructors();
    due("one constructor", all.length == 1 && all[0].getParameterCount() == 0 && Modifier.isPublic(all[0].getModifiers()));
  }

  private static void classesInside(Class<?> face) {
    Class<?>[] inside = face.getDeclaredClasses();
    due("too many classes: " + inside.length, inside.length < MOST_CLASSES);
    Set<String> publicNames = new TreeSet<>();
    for (String m : METHODS) publicNames.add(m.substring(m.indexOf(' ') + 1, m.indexOf('(')));
    for (Method m : face.getDeclaredMethods()) {
      due("private and named as a public one: " + m,
          !Modifier.isPrivate(m.getModifiers()) || !publicNames.contains(m.getName()));
    }
    for (Class<?> c : inside) {
      due("not static, or public: " + c, Modifier.isStatic(c.getModifiers()) && !Modifier.isPublic(c.getModifiers()));
      for (Method m : c.getDeclaredMethods()) due("named as a public one: " + m, !publicNames.contains(m.getName()));
      int fields = 0;
      for (Field f : c.getDeclaredFields()) if (!Modifier.isStatic(f.getModifiers())) fields++;
      due("too many fields: " + c, fields <= MOST_FIELDS);
    }
  }

  private static void text() throws Exception {
    String source = Files.readString(Path.of("src/main/java/NeedlePlate.java"));
    for (String line : source.split("\n")) {
      if (line.startsWith("import ")) due("not to be imported: " + line, line.equals("import java.util.Arrays;"));
    }
    String code = source.replaceAll("(?s)/\\*.*?\\*/", "").replaceAll("//[^\n]*", "");
    for (String word : RULED_OUT) due("ruled out: " + word, !Pattern.compile(word).matcher(code).find());
    due("characters above 255", source.chars().allMatch(c -> c < 256));
  }
}
