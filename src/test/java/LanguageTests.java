import java.io.IOException;
import java.lang.reflect.Constructor;
import java.lang.reflect.Field;
import java.lang.reflect.Method;
import java.lang.reflect.Modifier;
import java.nio.file.Files;
import java.nio.file.Path;
import java.util.Arrays;
import java.util.Set;
import java.util.TreeSet;
import java.util.regex.Matcher;
import java.util.regex.Pattern;

/** The face of the document, and those rules of LANGUAGE.md that can be seen from the classes and the words of the source. */
public final class LanguageTests {
  private static final String FACE = "house(int):int warm(int,int):int roof(int,int,int):int ice(int,int,int,int,int):int "
      + "type(int):int clear():int read():int hours(int):int snows(int,int):int heats(int,int):int knocks(int):int "
      + "undo():int of(int,int):int more(int):int about(int,int):int warmth(int):int ahead(int,int,int):int fall(int):int "
      + "first():int order(int):int path():int least(int):int peak(int,int):int most(int,int):int "
      + "seen(int,int,int,int):int warms(int):int tell(int):int note(int,int,int,int,int):int "
      + "mark(int,int,int,int,int):int forget(int):int is(int):int look(int):int kinds(int):int ask(int):int "
      + "sticks(int):int odds(int,int,int):int winters(int,int):int part(int):long image(int):int from(int):int "
      + "status(int):int count(int):int digest():long";
  private static final String[] BANNED = {"throw", "throws", "try", "catch", "synchronized", "assert", "Exact", "hashCode",
      "toString", "protected", "System\\.out", "System\\.exit", "Random", "Thread", "->", "::", "@Override", "package"};
  private static int wrong = 0;

  private static void due(boolean holds, String what) {
    if (!holds) { wrong++; System.out.println("LanguageTests: " + what); }
  }

  private static void face() {
    Set<String> want = new TreeSet<>(Arrays.asList(FACE.split(" "))), got = new TreeSet<>(), names = new TreeSet<>();
    for (Method m : IcicleEaves.class.getDeclaredMethods()) {
      if (m.isSynthetic()) continue;
      if (Modifier.isPublic(m.getModifiers())) {
        StringBuilder s = new StringBuilder(m.getName()).append('(');
        for (Class<?> p : m.getParameterTypes()) s.append(s.charAt(s.length() - 1) == '(' ? "" : ",").append(p);
        got.add(s.append("):").append(m.getReturnType()).toString());
        names.add(m.getName());
      }
    }
    due(got.equals(want), "the face is " + got + ", due is " + want);
    for (Method m : IcicleEaves.class.getDeclaredMethods()) {
      if (m.isSynthetic() || Modifier.isPublic(m.getModifiers())) continue;
      due(Modifier.isPrivate(m.getModifiers()), m + " can be seen");
      due(!names.contains(m.getName()), m + " bears a public name");
      due(m.getParameterCount() <= 7, m + " takes too much");
    }
    Set<String> constants = new TreeSet<>(Set.of("NONE", "BAD", "NO", "FULL"));
    for (Field f : IcicleEaves.class.getDeclaredFields()) {
      if (Modifier.isPublic(f.getModifiers())) due(constants.remove(f.getName()), f + " is not of the face");
      else due(Modifier.isPrivate(f.getModifiers()), f + " can be seen");
      due(!Modifier.isStatic(f.getModifiers()) || Modifier.isFinal(f.getModifiers()), f + " is static and changes");
    }
    due(constants.isEmpty(), "constants that are missing: " + constants);
    Constructor<?>[] made = IcicleEaves.class.getDeclaredConstructors();
    due(made.length == 1 && made[0].getParameterCount() == 0, "the constructor");
    due(Modifier.isFinal(IcicleEaves.class.getModifiers()), "the class is final");
    inside(names);
  }

  private static void inside(Set<String> names) {
    Class<?>[] classes = IcicleEaves.class.getDeclaredClasses();
    due(classes.length <= 11, "too many classes");
    for (Class<?> c : classes) {
      due(Modifier.isStatic(c.getModifiers()) && Modifier.isPrivate(c.getModifiers()), c + " is static and private");
      for (Method m : c.getDeclaredMethods()) {
        due(m.isSynthetic() || !names.contains(m.getName()), m + " bears a public name");
        due(m.getParameterCount() <= 7, m + " takes too much");
      }
      long fields = Arrays.stream(c.getDeclaredFields()).filter(f -> !Modifier.isStatic(f.getModifiers())).count();
      due(fields <= 20, c + " has too many fields");
    }
  }

  private static void words() throws IOException {
    String source = Files.readString(Path.of("src/main/java/IcicleEaves.java"));
    String code = source.replaceAll("(?s)/\\*.*?\\*/", "").replaceAll("//[^\n]*", "").replaceAll("\"[^\"\n]*\"", "\"\"");
    for (String word : BANNED) {
      String edge = Character.isLetter(word.charAt(0)) ? "\\b" : "";
      due(!Pattern.compile(edge + word + edge).matcher(code).find(), "the source has " + word);
    }
    Matcher imports = Pattern.compile("import ([^;]+);").matcher(code);
    while (imports.find()) due(imports.group(1).equals("java.util.Arrays"), "import of " + imports.group(1));
    due(source.chars().allMatch(c -> c == '\n' || c >= 32 && c < 127), "a sign outside 32 to 126");
  }

  public static void main(String[] args) throws IOException {
    face();
    words();
    System.out.println(wrong == 0 ? "LanguageTests: all is as due" : "LanguageTests: " + wrong + " are not as due");
    if (wrong != 0) System.exit(1);
  }
}
