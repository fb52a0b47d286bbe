import java.io.IOException;
import java.lang.reflect.Method;
import java.lang.reflect.Modifier;
import java.nio.file.Files;
import java.nio.file.Path;
import java.util.Arrays;
import java.util.HashMap;
import java.util.Map;
import java.util.regex.Matcher;
import java.util.regex.Pattern;

/** README.md: its examples answer as they say, and it names every call with as many numbers as the call takes. */
public final class ReadmeTests {
  private static final Pattern BLOCK = Pattern.compile("```java\n(.*?)```", Pattern.DOTALL);
  private static final Pattern MADE = Pattern.compile("IcicleEaves x = new IcicleEaves\\(\\);");
  private static final Pattern TYPED = Pattern.compile("for \\(char c : \"(.*)\"\\.toCharArray\\(\\)\\) x\\.type\\(c\\);");
  private static final Pattern CALL =
      Pattern.compile("(?:int ([a-z]+) = )?x\\.([a-z]+)\\((.*?)\\); *// (-?[0-9]+): .*");
  private static int wrong = 0;

  private static void failed(String what) {
    wrong++;
    System.out.println("ReadmeTests: " + what);
  }

  private static Method method(String name) {
    for (Method m : IcicleEaves.class.getDeclaredMethods()) {
      if (m.getName().equals(name) && Modifier.isPublic(m.getModifiers())) return m;
    }
    throw new IllegalArgumentException("no call " + name);
  }

  private static Object number(String word, Map<String, Integer> names) {
    return names.containsKey(word) ? names.get(word) : Integer.valueOf(word);
  }

  private static void runLine(IcicleEaves x, String line, Map<String, Integer> names) throws ReflectiveOperationException {
    Matcher typed = TYPED.matcher(line);
    if (typed.matches()) {
      for (char c : typed.group(1).toCharArray()) x.type(c);
      return;
    }
    Matcher call = CALL.matcher(line);
    if (!call.matches()) {
      failed("what is '" + line + "'?");
      return;
    }
    String told = call.group(3).trim();
    Object[] numbers = told.isEmpty() ? new Object[0]
        : Arrays.stream(told.split(", *")).map(word -> number(word, names)).toArray();
    long got = ((Number) method(call.group(2)).invoke(x, numbers)).longValue();
    if (got != Long.parseLong(call.group(4))) failed("'" + line + "' answered " + got);
    if (call.group(1) != null) names.put(call.group(1), (int) got);
  }

  private static int runBlock(String block) throws ReflectiveOperationException {
    IcicleEaves x = null;
    Map<String, Integer> names = new HashMap<>();
    int lines = 0;
    for (String line : block.split("\n")) {
      if (MADE.matcher(line).matches()) x = new IcicleEaves();
      else if (x == null) failed("nothing was made ahead of '" + line + "'");
      else runLine(x, line, names);
      lines++;
    }
    return lines;
  }

  private static boolean names(String page, Method m) {
    Matcher told = Pattern.compile("`" + m.getName() + "\\(([a-z, ]*)\\)`").matcher(page);
    while (told.find()) {
      int numbers = told.group(1).isEmpty() ? 0 : told.group(1).split(",").length;
      if (numbers == m.getParameterCount()) return true;
    }
    return false;
  }

  public static void main(String[] args) throws IOException, ReflectiveOperationException {
    String page = Files.readString(Path.of("README.md"));
    Matcher blocks = BLOCK.matcher(page);
    int lines = 0;
    while (blocks.find()) lines += runBlock(blocks.group(1));
    if (lines == 0) failed("there is no example");
    for (Method m : IcicleEaves.class.getDeclaredMethods()) {
      if (Modifier.isPublic(m.getModifiers()) && !names(page, m)) failed(m.getName() + " is not told");
    }
    System.out.println(wrong == 0 ? "ReadmeTests: all is as due" : "ReadmeTests: " + wrong + " are not as due");
    if (wrong != 0) System.exit(1);
  }
}
