import java.io.IOException;
import java.lang.reflect.InvocationTargetException;
import java.lang.reflect.Method;
import java.nio.file.Files;
import java.nio.file.Path;
import java.util.regex.Matcher;
import java.util.regex.Pattern;

/** The calls that README.md shows are made, in their order, and answer what it says behind them. */
public final class ReadmeTest {
  private static final Pattern CALL = Pattern.compile("walk\\.(\\w+)\\(([-\\d, ]*)\\);");
  private static final Pattern SHOWN = Pattern.compile(CALL.pattern() + " +// (-?\\d+(?:\\.\\d+)?).*");

  private static final Due due = new Due();

  public static void main(String[] args) throws IOException, ReflectiveOperationException {
    RopeWalk walk = new RopeWalk();
    int shown = 0;
    for (String line : Files.readAllLines(Path.of(System.getProperty("root", "."), "README.md"))) {
      Matcher call = SHOWN.matcher(line);
      if (call.matches()) {
        due.isReal(line, answer(walk, call.group(1), call.group(2)), Double.parseDouble(call.group(3)));
        shown++;
      } else {
        due.holds("each call shown has its answer: " + line, !CALL.matcher(line).find());
      }
    }
    due.holds("calls are shown", shown > 0);
    due.end();
  }

  private static double answer(RopeWalk walk, String name, String numbers)
      throws IllegalAccessException, InvocationTargetException {
    String[] texts = numbers.isEmpty() ? new String[0] : numbers.split(", ");
    Object[] handed = new Object[texts.length];
    for (int k = 0; k < texts.length; k++) handed[k] = Integer.valueOf(texts[k]);
    for (Method m : RopeWalk.class.getMethods()) {
      boolean fits = m.getName().equals(name) && m.getParameterCount() == handed.length;
      if (fits) return ((Number) m.invoke(walk, handed)).doubleValue();
    }
    due.holds("there is a call " + name + " of " + handed.length + " numbers", false);
    return Double.NaN;
  }
}
