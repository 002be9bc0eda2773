import java.io.IOException;
import java.lang.reflect.Method;
import java.nio.file.Files;
import java.nio.file.Path;
import java.util.regex.Matcher;
import java.util.regex.Pattern;

/** Goes through README.md's example: no call is refused, and each answer that a comment tells is the due one. */
public final class ReadmeTest {
  private static final Pattern CALL = Pattern.compile("desk\\.(\\w+)\\(([^)]*)\\);(?:\\s*// (-?\\d+):.*| *//.*)?");

  public static void main(String[] args) throws IOException, ReflectiveOperationException {
    LakeChain desk = new LakeChain();
    int calls = 0, told = 0, wrong = 0;
    for (String line : Files.readAllLines(Path.of("README.md"))) {
      Matcher call = CALL.matcher(line);
      if (!call.matches()) continue;
      calls++;
      long answer = answer(desk, call.group(1), call.group(2));
      boolean isTold = call.group(3) != null;
      if (isTold) told++;
      if (isTold ? answer == Long.parseLong(call.group(3)) : answer >= 0) continue;
      wrong++;
      System.out.println(line + " answered " + answer);
    }
    System.out.println(calls + " calls of README.md, " + told + " with an answer, " + wrong + " not so");
    if (wrong != 0 || calls < 10 || told < 3) System.exit(1);
  }

  private static long answer(LakeChain desk, String name, String told) throws ReflectiveOperationException {
    String[] parts = told.isEmpty() ? new String[0] : told.split(", ");
    for (Method m : LakeChain.class.getMethods()) {
      if (!m.getName().equals(name) || m.getParameterCount() != parts.length) continue;
      Object[] values = new Object[parts.length];
      for (int i = 0; i < parts.length; i++) {
        boolean isLong = m.getParameterTypes()[i] == long.class;
        if (isLong) values[i] = Long.parseLong(parts[i]);
        else values[i] = Integer.parseInt(parts[i]);
      }
      return ((Number) m.invoke(desk, values)).longValue();
    }
    throw new NoSuchMethodException(name);
  }
}
