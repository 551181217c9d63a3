import java.io.IOException;
import java.lang.management.ManagementFactory;
import java.lang.reflect.Constructor;
import java.lang.reflect.Field;
import java.lang.reflect.Method;
import java.lang.reflect.Modifier;
import java.nio.file.Files;
import java.nio.file.Path;
import java.util.Arrays;
import java.util.Set;
import java.util.TreeSet;
import java.util.regex.Matcher;
import java.util.regex.Pattern;

/** What ../shared/LANGUAGE.md asks of the program's text and of the room that it takes, as far as a test can see it. */
public final class RulesTest {
  private static int wrong = 0;

  private static void must(String what, boolean holds) {
    if (holds) return;
    wrong++;
    System.out.println("not so: " + what);
  }

  // ---- the text

  private static final String[] FORBIDDEN = {"throw", "throws", "try", "catch", "finally", "synchronized", "assert",
      "import", "package", "protected", "volatile", "transient", "native", "strictfp", "var", "System", "Object",
      "equals", "hashCode", "toString", "Exception", "Error", "Thread", "Random", "HashMap", "Scanner", "String"};

  private static String withoutComments(String text) {
    return text.replaceAll("(?s)/\\*.*?\\*/", " ").replaceAll("//[^\n]*", " ");
  }

  private static void text(String source) {
    for (char c : source.toCharArray()) {
      if (c > 126 || c < 32 && c != '\n') must("only plain signs, but there is one of code " + (int) c, false);
    }
    String code = withoutComments(source);
    for (String word : FORBIDDEN) must("no " + word, !Pattern.compile("\\b" + word + "\\b").matcher(code).find());
    for (String sign : new String[] {"->", "::", "@", "\""}) must("no " + sign, !code.contains(sign));
    must("no nested class that is not static", !Pattern.compile("(?<!static final )\\bclass (?!ParrotCourt\\b)").matcher(code).find());
    lengths(source);
  }

  /** Methods have some sixty lines at the most. */
  private static void lengths(String source) {
    String[] lines = source.split("\n");
    int start = -1;
    String indent = "";
    Pattern head = Pattern.compile("^( +)[A-Za-z].*\\) \\{$");
    for (int at = 0; at < lines.length; at++) {
      Matcher m = head.matcher(lines[at]);
      if (start < 0 && m.matches() && !lines[at].contains("class ")) {
        start = at;
        indent = m.group(1);
      } else if (start >= 0 && lines[at].equals(indent + "}")) {
        must("the method of line " + (start + 1) + " has 60 lines at the most", at - start < 60);
        start = -1;
      }
    }
    must("every method ends", start < 0);
  }

  // ---- the face

  private static final String FACE = "int sort(int,int) int say(int) int wipe() int fault(int) int days() "
      + "int part(int,int) int slips(int,int) int bargain() int says(int,int) int testify(int) int unsay(int) "
      + "int cost() int likely(int) long ways() long odds(int) int canBe(int) int taught(int) int few(int) "
      + "int doubt(int,int) int rare(int) int years(int,int,int,int) int lost(int,int,int) int image(int) "
      + "int restore(int) int told(int)";

  private static void face() {
    Class<?> court = ParrotCourt.class;
    must("the class is public and final", court.getModifiers() == (Modifier.PUBLIC | Modifier.FINAL));
    Set<String> names = new TreeSet<>();
    Set<String> face = new TreeSet<>();
    for (Method m : court.getDeclaredMethods()) {
      if (m.isSynthetic() || Modifier.isPrivate(m.getModifiers())) continue;
      must(m.getName() + " is public", m.getModifiers() == Modifier.PUBLIC);
      names.add(m.getName());
      String types = Arrays.toString(m.getParameterTypes()).replaceAll("[\\[\\] ]", "");
      face.add(m.getReturnType() + " " + m.getName() + "(" + types + ")");
    }
    must("the face is that of the document", face.equals(new TreeSet<>(Arrays.asList(FACE.split("(?<=\\)) ")))));
    Constructor<?>[] made = court.getDeclaredConstructors();
    must("one public constructor", made.length == 1 && made[0].getModifiers() == Modifier.PUBLIC && made[0].getParameterCount() == 0);
    Set<String> constants = new TreeSet<>();
    for (Field f : court.getDeclaredFields()) {
      if (!Modifier.isPrivate(f.getModifiers())) constants.add(f.getType() + " " + f.getName());
    }
    must("the constants are those of the document", constants.equals(new TreeSet<>(Arrays.asList("int UNKNOWN",
        "int OUTSIDE", "int STATE", "int FULL", "int NO", "int NONE", "long GONE"))));
    privateNames(court, names);
    must("twelve classes at the most", court.getDeclaredClasses().length < 12);
    for (Class<?> inside : court.getDeclaredClasses()) {
      must(inside + " is static", Modifier.isStatic(inside.getModifiers()));
      privateNames(inside, names);
    }
  }

  private static void privateNames(Class<?> of, Set<String> publicNames) {
    for (Method m : of.getDeclaredMethods()) {
      if (m.isSynthetic()) continue;
      must("seven parameters at the most in " + m, m.getParameterCount() <= 7);
      boolean face = of == ParrotCourt.class && !Modifier.isPrivate(m.getModifiers());
      must(m + " bears the name of no public method", face || !publicNames.contains(m.getName()));
    }
    int fields = 0;
    for (Field f : of.getDeclaredFields()) {
      if (!Modifier.isStatic(f.getModifiers())) fields++;
      else must(f + " is a constant", Modifier.isFinal(f.getModifiers()));
    }
    must(of + " has twenty fields at the most", fields <= 20);
  }

  // ---- the room

  private static void say(ParrotCourt court, String text) {
    for (int i = 0; i < text.length(); i++) court.say(text.charAt(i));
  }

  private static ParrotCourt fullCourt() {
    ParrotCourt court = new ParrotCourt();
    for (int bird = 0; bird < 6; bird++) court.sort(bird, 1 + bird % 3);
    say(court, "XAABBCCDDEEFFAABBCCDDEEFXAXBXCXD");
    court.days();
    for (int bird = 0; bird < 6; bird++) {
      say(court, "abc");
      court.testify(bird);
    }
    return court;
  }

  private static long askAll(ParrotCourt court, int i) {
    long sum = court.sort(0, i % 5) + court.say('a') + court.cost() + court.likely(2) + court.ways() + court.odds(1);
    sum += court.canBe(i % 17) + court.taught(i % 3) + court.few(3) + court.doubt(3, i % 64) + court.says(1, 0);
    sum += court.years(i, 400, 5, 0) + court.lost(i, 400, 5) + court.image(0) + court.restore(0) + court.told(5);
    return sum + court.fault(0) + court.slips(3, 1) + court.part(3, 3) + court.wipe() + court.bargain() + court.days();
  }

  private static void room() {
    com.sun.management.ThreadMXBean threads = (com.sun.management.ThreadMXBean) ManagementFactory.getThreadMXBean();
    long thread = Thread.currentThread().getId();
    ParrotCourt court = fullCourt();
    long sum = askAll(court, 0);
    long before = threads.getThreadAllocatedBytes(thread);
    for (int i = 0; i < 500; i++) sum += askAll(court, i);
    long calls = threads.getThreadAllocatedBytes(thread) - before;
    before = threads.getThreadAllocatedBytes(thread);
    court = fullCourt();
    long object = threads.getThreadAllocatedBytes(thread) - before;
    System.out.println("an object takes " + object + " bytes, 11000 calls take " + calls + (sum == 0 ? "." : ""));
    must("calls make nothing", calls < 20_000);
    must("an object stays small", object < 300_000);
  }

  public static void main(String[] args) throws IOException {
    text(Files.readString(Path.of(args[0])));
    face();
    room();
    System.out.println(wrong == 0 ? "all rules hold" : wrong + " rules do not hold");
    if (wrong != 0) System.exit(1);
  }
}
