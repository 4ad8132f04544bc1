import java.io.IOException;
import java.lang.reflect.Method;
import java.lang.reflect.Modifier;
import java.nio.file.Files;
import java.nio.file.Path;
import java.util.HashMap;
import java.util.List;
import java.util.Map;
import java.util.Set;
import java.util.TreeSet;
import java.util.regex.Matcher;
import java.util.regex.Pattern;

/** What README.md shows is so as it is written there. (Its commands are run by .ci/run.) */
public final class ReadmeTest extends Due {
  private static final Path README = Path.of("README.md");
  private static final Path TESTS = Path.of("src/test/java");
  private static final String NEW = "StepWorld x = new StepWorld();";
  private static final Pattern CALL = Pattern.compile("x\\.(\\w+)\\((.*?)\\); +// (-?\\d+)(: .+)?");
  private static final Pattern FINDING = Pattern.compile("\\| (-\\d+) \\| ([A-Z]+) \\|.*");
  private static final Map<String, Integer> FINDINGS = Map.of("BEYOND", BEYOND, "FULL", FULL, "KIND", KIND,
      "NONE", NONE, "STATE", STATE, "MISSING", MISSING, "SIZE", SIZE);

  public static void main(String[] args) throws IOException, ReflectiveOperationException {
    List<String> lines = Files.readAllLines(README);
    calls(lines);
    findings(lines);
    tests(lines);
    close();
  }

  private static void calls(List<String> lines) throws ReflectiveOperationException {
    Map<String, Method> face = face();
    Set<String> shown = new TreeSet<>();
    StepWorld x = null;
    boolean inside = false;
    for (String line : lines) {
      if (line.startsWith("```")) {
        inside = line.equals("```java");
        x = null;
      } else if (inside && line.equals(NEW)) {
        x = new StepWorld();
      } else if (inside) {
        Matcher m = CALL.matcher(line);
        boolean asCall = m.matches() && x != null && face.containsKey(m.group(1));
        due("README.md: a call of an object, with its answer, is " + line, asCall ? 1 : 0, 1);
        if (asCall) {
          shown.add(m.group(1));
          ask(x, face.get(m.group(1)), m);
        }
      }
    }
    due("README.md: the calls shown are " + shown, shown.equals(face.keySet()) ? 1 : 0, 1);
  }

  private static Map<String, Method> face() {
    Map<String, Method> face = new HashMap<>();
    for (Method m : StepWorld.class.getDeclaredMethods()) {
      if (Modifier.isPublic(m.getModifiers())) {
        face.put(m.getName(), m);
      }
    }
    return face;
  }

  private static void ask(StepWorld x, Method call, Matcher m) throws ReflectiveOperationException {
    int answer = Integer.parseInt(m.group(3));
    due("README.md: " + m.group(), (Integer) call.invoke(x, arguments(m.group(2))), answer);
    boolean tells = m.group(4) != null;
    for (Map.Entry<String, Integer> finding : FINDINGS.entrySet()) {
      boolean named = tells && m.group(4).startsWith(": " + finding.getKey());
      due("README.md: the name of what is found by " + m.group(), named ? 1 : 0, answer == finding.getValue() ? 1 : 0);
    }
  }

  private static Object[] arguments(String list) {
    if (list.isEmpty()) {
      return new Object[0];
    }
    String[] each = list.split(", ");
    Object[] numbers = new Object[each.length];
    for (int i = 0; i < each.length; i++) {
      numbers[i] = each[i].startsWith("'") ? (int) each[i].charAt(1) : Integer.decode(each[i]);
    }
    return numbers;
  }

  private static void findings(List<String> lines) {
    int rows = 0;
    for (String line : lines) {
      Matcher m = FINDING.matcher(line);
      if (m.matches()) {
        rows++;
        due("README.md: " + line, FINDINGS.getOrDefault(m.group(2), 0), Integer.parseInt(m.group(1)));
      }
    }
    due("README.md: rows of findings", rows, FINDINGS.size());
  }

  private static void tests(List<String> lines) throws IOException {
    Set<String> named = new TreeSet<>();
    for (String line : lines) {
      Matcher m = Pattern.compile("\\| (\\w+Test) \\|.*").matcher(line);
      if (m.matches()) {
        named.add(m.group(1) + ".java");
      }
    }
    Set<String> there = new TreeSet<>();
    try (var files = Files.list(TESTS)) {
      files.map(file -> file.getFileName().toString()).filter(name -> name.endsWith("Test.java")).forEach(there::add);
    }
    due("README.md: tests named " + named + ", tests there " + there, named.equals(there) ? 1 : 0, 1);
  }
}
