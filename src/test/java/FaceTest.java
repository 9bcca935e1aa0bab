import java.io.IOException;
import java.lang.reflect.Constructor;
import java.lang.reflect.Field;
import java.lang.reflect.Method;
import java.lang.reflect.Modifier;
import java.nio.file.Files;
import java.nio.file.Path;
import java.util.Arrays;
import java.util.TreeSet;

/** The public face, and what of the rules of the language can be seen from outside. */
public final class FaceTest {
  private static final String[] FACE = {
      "int yarn(int,int)", "int tape(int,int)", "int pick(int)", "int drop()",
      "int lay(int,int,int)", "int splice(int,int,int)", "int untwist(int)", "int of(int,int)",
      "int part(int,int)", "int count(int)", "int row(int,int)", "int lose(int)",
      "int spot(int,int,int,int,int)", "int carry(int,int,int,int,int)", "double bears(int,int)",
      "double least(int)", "int where(int)", "long grams(int)", "double rest(int,int)",
      "double left(int,int)", "long turned(int,int,int)", "int hang(int,int)", "int off(int)",
      "int take(int,int)", "int order(int,int)", "int cut(int)", "int join(int)", "int begun()",
      "int fewest()", "int stage(int)", "int unstage()", "long pull(int,int)",
      "long stress(int,int,int)"};
  private static final String[] FORBIDDEN = {"import ", "package ", "catch", "finally", "throw ",
      "synchronized", "assert", "->", "::", "Exact", "System.out", "Float.", "Double.",
      "Math.floor(", "Math.rint(", "Math.signum(", "StrictMath", "Random", "Thread", "instanceof",
      "\t"};

  private static final Due due = new Due();

  public static void main(String[] args) throws IOException {
    methods();
    others();
    source();
    due.end();
  }

  private static void methods() {
    due.about("methods");
    TreeSet<String> seen = new TreeSet<>();
    TreeSet<String> names = new TreeSet<>();
    for (Method m : RopeWalk.class.getDeclaredMethods()) {
      if (Modifier.isPublic(m.getModifiers())) {
        names.add(m.getName());
        String types = Arrays.toString(m.getParameterTypes()).replace(", ", ",");
        seen.add(m.getReturnType() + " " + m.getName() + "(" + types.substring(1, types.length() - 1) + ")");
      }
    }
    TreeSet<String> face = new TreeSet<>(Arrays.asList(FACE));
    due.holds("the public methods are the face: " + seen, seen.equals(face));
    for (Method m : RopeWalk.class.getDeclaredMethods()) {
      boolean isPrivate = Modifier.isPrivate(m.getModifiers());
      due.holds(m + " is public or private", isPrivate || Modifier.isPublic(m.getModifiers()));
      due.holds(m + " bears no public name", !isPrivate || !names.contains(m.getName()));
      due.holds(m + " has at most seven parameters", m.getParameterCount() <= 7);
    }
  }

  private static void others() {
    due.about("fields, constructors, classes");
    int ownFields = 0;
    for (Field f : RopeWalk.class.getDeclaredFields()) {
      due.holds(f + " is private", Modifier.isPrivate(f.getModifiers()));
      if (Modifier.isStatic(f.getModifiers())) due.holds(f + " is final", Modifier.isFinal(f.getModifiers()));
      else ownFields++;
    }
    due.holds("some twenty fields at most", ownFields <= 20);
    due.is("constructors", RopeWalk.class.getDeclaredConstructors().length, 1);
    for (Constructor<?> c : RopeWalk.class.getDeclaredConstructors()) {
      due.holds("it is public, without parameters",
          Modifier.isPublic(c.getModifiers()) && c.getParameterCount() == 0);
    }
    due.holds("the class is public and final",
        Modifier.isPublic(RopeWalk.class.getModifiers()) && Modifier.isFinal(RopeWalk.class.getModifiers()));
    for (Class<?> inner : RopeWalk.class.getDeclaredClasses()) {
      due.holds(inner + " is private and static",
          Modifier.isPrivate(inner.getModifiers()) && Modifier.isStatic(inner.getModifiers()));
      due.holds(inner + " has some twenty fields at most", inner.getDeclaredFields().length <= 20);
    }
  }

  private static void source() throws IOException {
    due.about("source");
    String text = Files.readString(Path.of(System.getProperty("root", "."), "src/main/java/RopeWalk.java"));
    String code = text.replaceAll("(?s)/\\*.*?\\*/", "").replaceAll("//[^\n]*", "");
    for (String word : FORBIDDEN) due.holds("no '" + word + "'", !code.contains(word));
    due.holds("signs 1 to 127 alone", text.chars().allMatch(c -> c >= 1 && c <= 127));
    int longest = 0;
    int started = 0;
    String[] lines = code.split("\n");
    for (int n = 0; n < lines.length; n++) {
      if (lines[n].matches("  (  )?(public|private) [^=;]*\\{")) started = n;
      if (lines[n].matches("  (  )?\\}")) longest = Math.max(longest, n - started + 1);
    }
    due.holds("methods stay short: " + longest + " lines", longest <= 60);
  }
}
